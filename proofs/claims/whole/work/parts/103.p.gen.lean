-- written by wip/gen/emit.py: J6_bitCount_0f7a4, X11_addOrder, X11_setPolicy, X11_setZones, X11_setBuffer, X11_setTimes, X11_appendText, X11_truncateText, X11_needAisle, X11_needZone, X11_needItem, X11_needOrder, X11_needBatch, X11_needBatchLimits, X11_batchedOrders, X0_takeFrom, X1_copyFrom, X1_weightOfAll, X1_openBatch, X1_pickFirstBatch, X3_build, X5_shortInAll, X5_pickedOfDone, X5_repeatShort
set_option maxRecDepth 100000 in
set_option maxHeartbeats 4000000 in
theorem c_J6_bitCount_0f7a4 {l : Launch} {G : Gx} (hG : GOK G) (hl : l.stackTraces = false)  (x0 : Int) (M : Mem) (r : Int) (h : f_J6_bitCount_0f7a4 x0 M = some r) : Cn l G mJ6_bitCount_0f7a4 1 [vi x0] M (some (vi r)) M := by
  refine Cn_of2 (ls := [some (vi x0)]) hG hl kJ6_bitCount_0f7a4 rfl (Nat.le_of_ble_eq_true rfl) rfl rfl rfl rfl rfl (fun X eG el hX => ?_)
  subst eG; subst el
  unfold f_J6_bitCount_0f7a4 at h
  refine x_iloadn hX dJ6_bitCount_0f7a4_0 rfl ?_
  refine x_iloadn hX dJ6_bitCount_0f7a4_1 rfl ?_
  refine x_iconst hX dJ6_bitCount_0f7a4_2 ?_
  refine x_iushr hX dJ6_bitCount_0f7a4_3 ?_
  refine x_ldcw hX dJ6_bitCount_0f7a4_4 w_1240 ?_
  refine x_iand hX dJ6_bitCount_0f7a4_7 ?_
  refine x_isub hX dJ6_bitCount_0f7a4_8 ?_
  obtain ⟨x0_1, ex0_1, h⟩ := bnd_of h
  refine x_istoren (ls' := [some (vi x0_1)]) hX dJ6_bitCount_0f7a4_9 rfl ex0_1 rfl ?_
  refine x_iloadn hX dJ6_bitCount_0f7a4_10 rfl ?_
  refine x_ldcw hX dJ6_bitCount_0f7a4_11 w_1241 ?_
  refine x_iand hX dJ6_bitCount_0f7a4_14 ?_
  refine x_iloadn hX dJ6_bitCount_0f7a4_15 rfl ?_
  refine x_iconst hX dJ6_bitCount_0f7a4_16 ?_
  refine x_iushr hX dJ6_bitCount_0f7a4_17 ?_
  refine x_ldcw hX dJ6_bitCount_0f7a4_18 w_1241 ?_
  refine x_iand hX dJ6_bitCount_0f7a4_21 ?_
  refine x_iadd hX dJ6_bitCount_0f7a4_22 ?_
  obtain ⟨x0_2, ex0_2, h⟩ := bnd_of h
  refine x_istoren (ls' := [some (vi x0_2)]) hX dJ6_bitCount_0f7a4_23 rfl ex0_2 rfl ?_
  refine x_iloadn hX dJ6_bitCount_0f7a4_24 rfl ?_
  refine x_iloadn hX dJ6_bitCount_0f7a4_25 rfl ?_
  refine x_iconst hX dJ6_bitCount_0f7a4_26 ?_
  refine x_iushr hX dJ6_bitCount_0f7a4_27 ?_
  refine x_iadd hX dJ6_bitCount_0f7a4_28 ?_
  refine x_ldcw hX dJ6_bitCount_0f7a4_29 w_1242 ?_
  refine x_iand hX dJ6_bitCount_0f7a4_32 ?_
  obtain ⟨x0_3, ex0_3, h⟩ := bnd_of h
  refine x_istoren (ls' := [some (vi x0_3)]) hX dJ6_bitCount_0f7a4_33 rfl ex0_3 rfl ?_
  refine x_iloadn hX dJ6_bitCount_0f7a4_34 rfl ?_
  refine x_iloadn hX dJ6_bitCount_0f7a4_35 rfl ?_
  refine x_bipush hX dJ6_bitCount_0f7a4_36 bp_8 ?_
  refine x_iushr hX dJ6_bitCount_0f7a4_38 ?_
  refine x_iadd hX dJ6_bitCount_0f7a4_39 ?_
  obtain ⟨x0_4, ex0_4, h⟩ := bnd_of h
  refine x_istoren (ls' := [some (vi x0_4)]) hX dJ6_bitCount_0f7a4_40 rfl ex0_4 rfl ?_
  refine x_iloadn hX dJ6_bitCount_0f7a4_41 rfl ?_
  refine x_iloadn hX dJ6_bitCount_0f7a4_42 rfl ?_
  refine x_bipush hX dJ6_bitCount_0f7a4_43 bp_16 ?_
  refine x_iushr hX dJ6_bitCount_0f7a4_45 ?_
  refine x_iadd hX dJ6_bitCount_0f7a4_46 ?_
  obtain ⟨x0_5, ex0_5, h⟩ := bnd_of h
  refine x_istoren (ls' := [some (vi x0_5)]) hX dJ6_bitCount_0f7a4_47 rfl ex0_5 rfl ?_
  refine x_iloadn hX dJ6_bitCount_0f7a4_48 rfl ?_
  refine x_bipush hX dJ6_bitCount_0f7a4_49 bp_63 ?_
  refine x_iand hX dJ6_bitCount_0f7a4_51 ?_
  cases h
  exact x_iret hX dJ6_bitCount_0f7a4_52 rfl
set_option maxRecDepth 100000 in
set_option maxHeartbeats 4000000 in
theorem c_X11_addOrder {l : Launch} {G : Gx} (hG : GOK G) (hl : l.stackTraces = false) (hs : SOK G)  (x1 : Int) (M : Mem) (r : Nat ⊕ Int) (Mr : Mem) (h : f_X11_addOrder x1 M = some (r, Mr)) : Cx l G mX11_addOrder 2 2 12 [vr G 0, vi x1] M (ovi r) Mr := by
  refine Cx_of2 (ls := [some (vr G 0), some (vi x1)]) hG hl kX11_addOrder rfl (Nat.le_of_ble_eq_true rfl) rfl rfl rfl rfl rfl (fun X eG el hX hN => ?_)
  subst eG; subst el
  unfold f_X11_addOrder at h
  refine x_iloadn hX dX11_addOrder_0 rfl ?_
  refine x_iconst hX dX11_addOrder_1 ?_
  refine x_sipush hX dX11_addOrder_2 sp_9999 ?_
  rcases cx1_of h with ⟨e_3, ee_3, h⟩ | ⟨r_1, er_1, h⟩
  · exact x_rs2 (f := ovi) h (x_xSt (As := [vi x1, vi 0, vi 9999]) (rest := []) hX hN dX11_addOrder_5 (c_X11_needArgument (gk hX) (gl hX) x1 0 9999 M _ ee_3) kX11_needArgument sX11_needArgument w_965 rfl rfl rfl (Nat.le_of_ble_eq_true rfl) (Nat.le_of_ble_eq_true rfl) (Nat.le_of_ble_eq_true rfl))
  · refine x_xSr (As := [vi x1, vi 0, vi 9999]) (rest := []) hX dX11_addOrder_5 (c_X11_needArgument (gk hX) (gl hX) x1 0 9999 M _ er_1) kX11_needArgument sX11_needArgument w_965 rfl rfl rfl (Nat.le_of_ble_eq_true rfl) (kf hN (a := 1) (b := 6) (Nat.le_of_ble_eq_true rfl) (Nat.le_of_ble_eq_true rfl)) ?_
    show V X 1 6 _ 8 [some (vr (xG X) 0), some (vi x1)] [] M
    refine x_aloadn hX dX11_addOrder_8 rfl ?_
    rcases cx1_of h with ⟨e_6, ee_6, h⟩ | ⟨r_4, er_4, h⟩
    · exact x_rs2 (f := ovi) h (x_xVt (t := 10) (As := []) (rest := []) hX hN dX11_addOrder_9 (c_X11_needRoomForOrder (gk hX) (gl hX) hs M _ ee_6) kX11_needRoomForOrder vX11_needRoomForOrder w_1110 (st0 hs) rfl rfl rfl rfl (Nat.le_of_ble_eq_true rfl) (Nat.le_of_ble_eq_true rfl) (Nat.le_of_ble_eq_true rfl))
    · refine x_xVr (t := 10) (As := []) (rest := []) hX dX11_addOrder_9 (c_X11_needRoomForOrder (gk hX) (gl hX) hs M _ er_4) kX11_needRoomForOrder vX11_needRoomForOrder w_1110 (st0 hs) rfl rfl rfl rfl (Nat.le_of_ble_eq_true rfl) (kf hN (a := 2) (b := 12) (Nat.le_of_ble_eq_true rfl) (Nat.le_of_ble_eq_true rfl)) ?_
      show V X 2 12 _ 12 [some (vr (xG X) 0), some (vi x1)] [] M
      refine x_aloadn hX dX11_addOrder_12 rfl ?_
      refine x_getRj (j := 1) hX dX11_addOrder_13 fl_X11_10 rfl (st0 hs) rfl ?_
      refine x_getRj (j := 10) hX dX11_addOrder_16 fl_X11_118 rfl (st1 hs) rfl ?_
      refine x_iloadn hX dX11_addOrder_19 rfl ?_
      obtain ⟨r_7, M_8, er_7, h⟩ := cl2_of h
      refine x_callVi (t := 5) (As := [vi x1]) (rest := []) hX dX11_addOrder_20 (c_X5_append (gk hX) (gl hX) (st10 hs) x1 M _ _ er_7) kX5_append vX5_append w_1115 (st10 hs) rfl rfl rfl rfl (Nat.le_of_ble_eq_true rfl) (kf hN (a := 2) (b := 12) (Nat.le_of_ble_eq_true rfl) (Nat.le_of_ble_eq_true rfl)) ?_
      cases h
      exact x_iretX hX dX11_addOrder_23 (Nat.le_of_ble_eq_true rfl) (Nat.le_of_ble_eq_true rfl)
set_option maxRecDepth 100000 in
set_option maxHeartbeats 4000000 in
theorem c_X11_setPolicy {l : Launch} {G : Gx} (hG : GOK G) (hl : l.stackTraces = false) (hs : SOK G)  (x1 : Int) (M : Mem) (r : Nat ⊕ Int) (Mr : Mem) (h : f_X11_setPolicy x1 M = some (r, Mr)) : Cx l G mX11_setPolicy 2 1 6 [vr G 0, vi x1] M (ovi r) Mr := by
  refine Cx_of2 (ls := [some (vr G 0), some (vi x1), none]) hG hl kX11_setPolicy rfl (Nat.le_of_ble_eq_true rfl) rfl rfl rfl rfl rfl (fun X eG el hX hN => ?_)
  subst eG; subst el
  unfold f_X11_setPolicy at h
  refine x_iloadn hX dX11_setPolicy_0 rfl ?_
  refine x_iconst hX dX11_setPolicy_1 ?_
  refine x_iconst hX dX11_setPolicy_2 ?_
  rcases cx1_of h with ⟨e_3, ee_3, h⟩ | ⟨r_1, er_1, h⟩
  · exact x_rs2 (f := ovi) h (x_xSt (As := [vi x1, vi 0, vi 3]) (rest := []) hX hN dX11_setPolicy_3 (c_X11_needArgument (gk hX) (gl hX) x1 0 3 M _ ee_3) kX11_needArgument sX11_needArgument w_965 rfl rfl rfl (Nat.le_of_ble_eq_true rfl) (Nat.le_of_ble_eq_true rfl) (Nat.le_of_ble_eq_true rfl))
  · refine x_xSr (As := [vi x1, vi 0, vi 3]) (rest := []) hX dX11_setPolicy_3 (c_X11_needArgument (gk hX) (gl hX) x1 0 3 M _ er_1) kX11_needArgument sX11_needArgument w_965 rfl rfl rfl (Nat.le_of_ble_eq_true rfl) (kf hN (a := 1) (b := 6) (Nat.le_of_ble_eq_true rfl) (Nat.le_of_ble_eq_true rfl)) ?_
    show V X 1 6 _ 6 [some (vr (xG X) 0), some (vi x1), none] [] M
    refine x_aloadn hX dX11_setPolicy_6 rfl ?_
    refine x_getRj (j := 1) hX dX11_setPolicy_7 fl_X11_10 rfl (st0 hs) rfl ?_
    refine x_getRj (j := 2) hX dX11_setPolicy_10 fl_X11_79 rfl (st1 hs) rfl ?_
    refine x_getI hX dX11_setPolicy_13 fl_X11_220 rfl (st2 hs) ?_
    obtain ⟨x2_4, ex2_4, h⟩ := bnd_of h
    refine x_istoren (ls' := [some (vr (xG X) 0), some (vi x1), some (vi x2_4)]) hX dX11_setPolicy_16 rfl ex2_4 rfl ?_
    refine x_aloadn hX dX11_setPolicy_17 rfl ?_
    refine x_getRj (j := 1) hX dX11_setPolicy_18 fl_X11_10 rfl (st0 hs) rfl ?_
    refine x_getRj (j := 2) hX dX11_setPolicy_21 fl_X11_79 rfl (st1 hs) rfl ?_
    refine x_iloadn hX dX11_setPolicy_24 rfl ?_
    obtain ⟨M_5, eM_5, h⟩ := bnd_of h
    refine x_putI hX dX11_setPolicy_25 fp_X11_220 rfl (st2 hs) (x_meq eM_5 ?_)
    refine x_iloadn hX dX11_setPolicy_28 rfl ?_
    cases h
    exact x_iretX hX dX11_setPolicy_29 (Nat.le_of_ble_eq_true rfl) (Nat.le_of_ble_eq_true rfl)
set_option maxRecDepth 100000 in
set_option maxHeartbeats 4000000 in
theorem tj_X11_setZones_47 {X : Cxt} (hX : Gd X RX11 cX11_setZones 4 (some .int) 2) (hN : NX X 2 12) (hs : SOK (xG X))   (x1 : Int) (x2 : Int) (M : Mem) (r : Nat ⊕ Int) (Mr : Mem) (h : j_X11_setZones_47 x1 x2 M = some (r, Mr)) : V X 2 12 (Qx X 2 12 (ovi r) Mr) 47 [some (vr (xG X) 0), some (vi x1), some (vi x2), none] [] M := by
  unfold j_X11_setZones_47 at h
  refine x_aloadn hX dX11_setZones_47 rfl ?_
  refine x_getRj (j := 1) hX dX11_setZones_48 fl_X11_10 rfl (st0 hs) rfl ?_
  refine x_getRj (j := 2) hX dX11_setZones_51 fl_X11_79 rfl (st1 hs) rfl ?_
  refine x_iloadn hX dX11_setZones_54 rfl ?_
  refine x_iloadn hX dX11_setZones_55 rfl ?_
  obtain ⟨M_3, er_2, h⟩ := cl1_of h
  refine x_callVv (t := 3) (As := [vi x1, vi x2]) (rest := []) hX dX11_setZones_56 (c_X3_divide (gk hX) (gl hX) (st2 hs) x1 x2 M _ er_2) kX3_divide vX3_divide w_1391 (st2 hs) rfl rfl rfl rfl (Nat.le_of_ble_eq_true rfl) (kf hN (a := 2) (b := 12) (Nat.le_of_ble_eq_true rfl) (Nat.le_of_ble_eq_true rfl)) ?_
  refine x_aloadn hX dX11_setZones_59 rfl ?_
  refine x_getRj (j := 1) hX dX11_setZones_60 fl_X11_10 rfl (st0 hs) rfl ?_
  refine x_getRj (j := 2) hX dX11_setZones_63 fl_X11_79 rfl (st1 hs) rfl ?_
  refine x_getI hX dX11_setZones_66 fl_X11_226 rfl (st2 hs) ?_
  cases h
  exact x_iretX hX dX11_setZones_69 (Nat.le_of_ble_eq_true rfl) (Nat.le_of_ble_eq_true rfl)
set_option maxRecDepth 100000 in
set_option maxHeartbeats 4000000 in
theorem tj_X11_setZones_43 {X : Cxt} (hX : Gd X RX11 cX11_setZones 4 (some .int) 2) (hN : NX X 2 12) (hs : SOK (xG X))   (x1 : Int) (x2 : Int) (x3 : Int) (y0 : Int) (y1 : Int) (M : Mem) (r : Nat ⊕ Int) (Mr : Mem) (h : j_X11_setZones_43 x1 x2 x3 y0 y1 M = some (r, Mr)) : V X 1 6 (Qx X 2 12 (ovi r) Mr) 43 [some (vr (xG X) 0), some (vi x1), some (vi x2), some (vi x3)] [vi y1, vi y0] M := by
  unfold j_X11_setZones_43 at h
  refine x_iloadn hX dX11_setZones_43 rfl ?_
  rcases cx1_of h with ⟨e_6, ee_6, h⟩ | ⟨r_4, er_4, h⟩
  · exact x_rs2 (f := ovi) h (x_xSt (As := [vi y0, vi y1, vi x3]) (rest := []) hX hN dX11_setZones_44 (c_X11_needArgument (gk hX) (gl hX) y0 y1 x3 M _ ee_6) kX11_needArgument sX11_needArgument w_965 rfl rfl rfl (Nat.le_of_ble_eq_true rfl) (Nat.le_of_ble_eq_true rfl) (Nat.le_of_ble_eq_true rfl))
  · refine x_xSr (As := [vi y0, vi y1, vi x3]) (rest := []) hX dX11_setZones_44 (c_X11_needArgument (gk hX) (gl hX) y0 y1 x3 M _ er_4) kX11_needArgument sX11_needArgument w_965 rfl rfl rfl (Nat.le_of_ble_eq_true rfl) (kf hN (a := 2) (b := 12) (Nat.le_of_ble_eq_true rfl) (Nat.le_of_ble_eq_true rfl)) ?_
    show V X 2 12 _ 47 [some (vr (xG X) 0), some (vi x1), some (vi x2), some (vi x3)] [] M
    exact x_weak [true, true, true, false] rfl (tj_X11_setZones_47 hX hN hs x1 x2 M r Mr h)
set_option maxRecDepth 100000 in
set_option maxHeartbeats 4000000 in
theorem tj_X11_setZones_24 {X : Cxt} (hX : Gd X RX11 cX11_setZones 4 (some .int) 2) (hN : NX X 2 12) (hs : SOK (xG X))   (x1 : Int) (x2 : Int) (x3 : Int) (M : Mem) (r : Nat ⊕ Int) (Mr : Mem) (h : j_X11_setZones_24 x1 x2 x3 M = some (r, Mr)) : V X 1 6 (Qx X 2 12 (ovi r) Mr) 24 [some (vr (xG X) 0), some (vi x1), some (vi x2), some (vi x3)] [] M := by
  unfold j_X11_setZones_24 at h
  refine x_iloadn hX dX11_setZones_24 rfl ?_
  refine x_iconst hX dX11_setZones_25 ?_
  refine x_icmp_eq (tgt := 47) hX dX11_setZones_26 (by decide) rfl cw_m1 (fun hc => ?_) (fun hc => ?_)
  · replace h := (if_pos hc).symm.trans h
    exact x_wid (k2 := 2) (n2 := 12) (Nat.le_of_ble_eq_true rfl) (Nat.le_of_ble_eq_true rfl) (x_weak [true, true, true, false] rfl (tj_X11_setZones_47 hX hN hs x1 x2 M r Mr h))
  · replace h := (if_neg hc).symm.trans h
    refine x_iloadn hX dX11_setZones_29 rfl ?_
    refine x_iloadn hX dX11_setZones_30 rfl ?_
    refine x_iconst hX dX11_setZones_31 ?_
    refine x_icmp_ne (tgt := 40) hX dX11_setZones_32 (by decide) rfl cw_m1 (fun hc => ?_) (fun hc => ?_)
    · replace h := (if_pos hc).symm.trans h
      refine x_bipush hX dX11_setZones_35 bp_6 ?_
      refine x_goto (tgt := 43) hX dX11_setZones_37 (by decide) ?_
      exact x_weak [true, true, true, true] rfl (tj_X11_setZones_43 hX hN hs x1 x2 x3 x2 6 M r Mr h)
    · replace h := (if_neg hc).symm.trans h
      refine x_iloadn hX dX11_setZones_40 rfl ?_
      refine x_iconst hX dX11_setZones_41 ?_
      refine x_iadd hX dX11_setZones_42 ?_
      exact x_weak [true, true, true, true] rfl (tj_X11_setZones_43 hX hN hs x1 x2 x3 x2 (x1 + 1) M r Mr h)
set_option maxRecDepth 100000 in
set_option maxHeartbeats 4000000 in
theorem c_X11_setZones {l : Launch} {G : Gx} (hG : GOK G) (hl : l.stackTraces = false) (hs : SOK G)  (x1 : Int) (x2 : Int) (M : Mem) (r : Nat ⊕ Int) (Mr : Mem) (h : f_X11_setZones x1 x2 M = some (r, Mr)) : Cx l G mX11_setZones 2 2 12 [vr G 0, vi x1, vi x2] M (ovi r) Mr := by
  refine Cx_of2 (ls := [some (vr G 0), some (vi x1), some (vi x2), none]) hG hl kX11_setZones rfl (Nat.le_of_ble_eq_true rfl) rfl rfl rfl rfl rfl (fun X eG el hX hN => ?_)
  subst eG; subst el
  unfold f_X11_setZones at h
  refine x_aloadn hX dX11_setZones_0 rfl ?_
  refine x_getRj (j := 1) hX dX11_setZones_1 fl_X11_10 rfl (st0 hs) rfl ?_
  refine x_getRj (j := 2) hX dX11_setZones_4 fl_X11_79 rfl (st1 hs) rfl ?_
  refine x_getI hX dX11_setZones_7 fl_X11_88 rfl (st2 hs) ?_
  refine x_iconst hX dX11_setZones_10 ?_
  refine x_isub hX dX11_setZones_11 ?_
  obtain ⟨x3_1, ex3_1, h⟩ := bnd_of h
  refine x_istoren (ls' := [some (vr (xG X) 0), some (vi x1), some (vi x2), some (vi x3_1)]) hX dX11_setZones_12 rfl ex3_1 rfl ?_
  refine x_iloadn hX dX11_setZones_13 rfl ?_
  refine x_iconst hX dX11_setZones_14 ?_
  refine x_icmp_eq (tgt := 24) hX dX11_setZones_15 (by decide) rfl cw_m1 (fun hc => ?_) (fun hc => ?_)
  · replace h := (if_pos hc).symm.trans h
    exact x_wid (k2 := 1) (n2 := 6) (Nat.le_of_ble_eq_true rfl) (Nat.le_of_ble_eq_true rfl) (x_weak [true, true, true, true] rfl (tj_X11_setZones_24 hX hN hs x1 x2 x3_1 M r Mr h))
  · replace h := (if_neg hc).symm.trans h
    refine x_iloadn hX dX11_setZones_18 rfl ?_
    refine x_iconst hX dX11_setZones_19 ?_
    refine x_iloadn hX dX11_setZones_20 rfl ?_
    rcases cx1_of h with ⟨e_9, ee_9, h⟩ | ⟨r_7, er_7, h⟩
    · exact x_rs2 (f := ovi) h (x_xSt (As := [vi x1, vi 1, vi x3_1]) (rest := []) hX hN dX11_setZones_21 (c_X11_needArgument (gk hX) (gl hX) x1 1 x3_1 M _ ee_9) kX11_needArgument sX11_needArgument w_965 rfl rfl rfl (Nat.le_of_ble_eq_true rfl) (Nat.le_of_ble_eq_true rfl) (Nat.le_of_ble_eq_true rfl))
    · refine x_xSr (As := [vi x1, vi 1, vi x3_1]) (rest := []) hX dX11_setZones_21 (c_X11_needArgument (gk hX) (gl hX) x1 1 x3_1 M _ er_7) kX11_needArgument sX11_needArgument w_965 rfl rfl rfl (Nat.le_of_ble_eq_true rfl) (kf hN (a := 1) (b := 6) (Nat.le_of_ble_eq_true rfl) (Nat.le_of_ble_eq_true rfl)) ?_
      show V X 1 6 _ 24 [some (vr (xG X) 0), some (vi x1), some (vi x2), some (vi x3_1)] [] M
      exact x_weak [true, true, true, true] rfl (tj_X11_setZones_24 hX hN hs x1 x2 x3_1 M r Mr h)
set_option maxRecDepth 100000 in
set_option maxHeartbeats 4000000 in
theorem c_X11_setBuffer {l : Launch} {G : Gx} (hG : GOK G) (hl : l.stackTraces = false) (hs : SOK G)  (x1 : Int) (x2 : Int) (M : Mem) (r : Nat ⊕ Int) (Mr : Mem) (h : f_X11_setBuffer x1 x2 M = some (r, Mr)) : Cx l G mX11_setBuffer 2 2 12 [vr G 0, vi x1, vi x2] M (ovi r) Mr := by
  refine Cx_of2 (ls := [some (vr G 0), some (vi x1), some (vi x2), none]) hG hl kX11_setBuffer rfl (Nat.le_of_ble_eq_true rfl) rfl rfl rfl rfl rfl (fun X eG el hX hN => ?_)
  subst eG; subst el
  unfold f_X11_setBuffer at h
  refine x_iloadn hX dX11_setBuffer_0 rfl ?_
  refine x_iconst hX dX11_setBuffer_1 ?_
  rcases cx1_of h with ⟨e_3, ee_3, h⟩ | ⟨r_1, er_1, h⟩
  · exact x_rs2 (f := ovi) h (x_xSt (As := [vi x1, vi 2]) (rest := []) hX hN dX11_setBuffer_2 (c_X11_needIndex (gk hX) (gl hX) x1 2 M _ ee_3) kX11_needIndex sX11_needIndex w_1064 rfl rfl rfl (Nat.le_of_ble_eq_true rfl) (Nat.le_of_ble_eq_true rfl) (Nat.le_of_ble_eq_true rfl))
  · refine x_xSr (As := [vi x1, vi 2]) (rest := []) hX dX11_setBuffer_2 (c_X11_needIndex (gk hX) (gl hX) x1 2 M _ er_1) kX11_needIndex sX11_needIndex w_1064 rfl rfl rfl (Nat.le_of_ble_eq_true rfl) (kf hN (a := 1) (b := 6) (Nat.le_of_ble_eq_true rfl) (Nat.le_of_ble_eq_true rfl)) ?_
    show V X 1 6 _ 5 [some (vr (xG X) 0), some (vi x1), some (vi x2), none] [] M
    refine x_iloadn hX dX11_setBuffer_5 rfl ?_
    refine x_iconst hX dX11_setBuffer_6 ?_
    refine x_iconst hX dX11_setBuffer_7 ?_
    rcases cx1_of h with ⟨e_6, ee_6, h⟩ | ⟨r_4, er_4, h⟩
    · exact x_rs2 (f := ovi) h (x_xSt (As := [vi x2, vi 0, vi 4]) (rest := []) hX hN dX11_setBuffer_8 (c_X11_needArgument (gk hX) (gl hX) x2 0 4 M _ ee_6) kX11_needArgument sX11_needArgument w_965 rfl rfl rfl (Nat.le_of_ble_eq_true rfl) (Nat.le_of_ble_eq_true rfl) (Nat.le_of_ble_eq_true rfl))
    · refine x_xSr (As := [vi x2, vi 0, vi 4]) (rest := []) hX dX11_setBuffer_8 (c_X11_needArgument (gk hX) (gl hX) x2 0 4 M _ er_4) kX11_needArgument sX11_needArgument w_965 rfl rfl rfl (Nat.le_of_ble_eq_true rfl) (kf hN (a := 2) (b := 12) (Nat.le_of_ble_eq_true rfl) (Nat.le_of_ble_eq_true rfl)) ?_
      show V X 2 12 _ 11 [some (vr (xG X) 0), some (vi x1), some (vi x2), none] [] M
      refine x_aloadn hX dX11_setBuffer_11 rfl ?_
      refine x_getRj (j := 1) hX dX11_setBuffer_12 fl_X11_10 rfl (st0 hs) rfl ?_
      refine x_getRj (j := 2) hX dX11_setBuffer_15 fl_X11_79 rfl (st1 hs) rfl ?_
      refine x_getRj (j := 4) hX dX11_setBuffer_18 fl_X11_232 rfl (st2 hs) rfl ?_
      refine x_iloadn hX dX11_setBuffer_21 rfl ?_
      obtain ⟨b_7, h⟩ := gi_of h
      refine x_iald hX dX11_setBuffer_22 (st4 hs) b_7 rfl ?_
      obtain ⟨x3_8, ex3_8, h⟩ := bnd_of h
      refine x_istoren (ls' := [some (vr (xG X) 0), some (vi x1), some (vi x2), some (vi x3_8)]) hX dX11_setBuffer_23 rfl ex3_8 rfl ?_
      refine x_aloadn hX dX11_setBuffer_24 rfl ?_
      refine x_getRj (j := 1) hX dX11_setBuffer_25 fl_X11_10 rfl (st0 hs) rfl ?_
      refine x_getRj (j := 2) hX dX11_setBuffer_28 fl_X11_79 rfl (st1 hs) rfl ?_
      refine x_getRj (j := 4) hX dX11_setBuffer_31 fl_X11_232 rfl (st2 hs) rfl ?_
      refine x_iloadn hX dX11_setBuffer_34 rfl ?_
      refine x_iloadn hX dX11_setBuffer_35 rfl ?_
      obtain ⟨b_10, h⟩ := gi_of h
      obtain ⟨M_9, eM_9, h⟩ := bnd_of h
      refine x_iast hX dX11_setBuffer_36 (st4 hs) b_10 rfl (x_meq eM_9 ?_)
      refine x_iloadn hX dX11_setBuffer_37 rfl ?_
      cases h
      exact x_iretX hX dX11_setBuffer_38 (Nat.le_of_ble_eq_true rfl) (Nat.le_of_ble_eq_true rfl)
set_option maxRecDepth 100000 in
set_option maxHeartbeats 4000000 in
theorem c_X11_setTimes {l : Launch} {G : Gx} (hG : GOK G) (hl : l.stackTraces = false) (hs : SOK G)  (x1 : Int) (x2 : Int) (M : Mem) (r : Nat ⊕ Int) (Mr : Mem) (h : f_X11_setTimes x1 x2 M = some (r, Mr)) : Cx l G mX11_setTimes 2 2 12 [vr G 0, vi x1, vi x2] M (ovi r) Mr := by
  refine Cx_of2 (ls := [some (vr G 0), some (vi x1), some (vi x2), none]) hG hl kX11_setTimes rfl (Nat.le_of_ble_eq_true rfl) rfl rfl rfl rfl rfl (fun X eG el hX hN => ?_)
  subst eG; subst el
  unfold f_X11_setTimes at h
  refine x_iloadn hX dX11_setTimes_0 rfl ?_
  refine x_iconst hX dX11_setTimes_1 ?_
  refine x_bipush hX dX11_setTimes_2 bp_99 ?_
  rcases cx1_of h with ⟨e_3, ee_3, h⟩ | ⟨r_1, er_1, h⟩
  · exact x_rs2 (f := ovi) h (x_xSt (As := [vi x1, vi 0, vi 99]) (rest := []) hX hN dX11_setTimes_4 (c_X11_needArgument (gk hX) (gl hX) x1 0 99 M _ ee_3) kX11_needArgument sX11_needArgument w_965 rfl rfl rfl (Nat.le_of_ble_eq_true rfl) (Nat.le_of_ble_eq_true rfl) (Nat.le_of_ble_eq_true rfl))
  · refine x_xSr (As := [vi x1, vi 0, vi 99]) (rest := []) hX dX11_setTimes_4 (c_X11_needArgument (gk hX) (gl hX) x1 0 99 M _ er_1) kX11_needArgument sX11_needArgument w_965 rfl rfl rfl (Nat.le_of_ble_eq_true rfl) (kf hN (a := 1) (b := 6) (Nat.le_of_ble_eq_true rfl) (Nat.le_of_ble_eq_true rfl)) ?_
    show V X 1 6 _ 7 [some (vr (xG X) 0), some (vi x1), some (vi x2), none] [] M
    refine x_iloadn hX dX11_setTimes_7 rfl ?_
    refine x_iconst hX dX11_setTimes_8 ?_
    refine x_bipush hX dX11_setTimes_9 bp_99 ?_
    rcases cx1_of h with ⟨e_6, ee_6, h⟩ | ⟨r_4, er_4, h⟩
    · exact x_rs2 (f := ovi) h (x_xSt (As := [vi x2, vi 0, vi 99]) (rest := []) hX hN dX11_setTimes_11 (c_X11_needArgument (gk hX) (gl hX) x2 0 99 M _ ee_6) kX11_needArgument sX11_needArgument w_965 rfl rfl rfl (Nat.le_of_ble_eq_true rfl) (Nat.le_of_ble_eq_true rfl) (Nat.le_of_ble_eq_true rfl))
    · refine x_xSr (As := [vi x2, vi 0, vi 99]) (rest := []) hX dX11_setTimes_11 (c_X11_needArgument (gk hX) (gl hX) x2 0 99 M _ er_4) kX11_needArgument sX11_needArgument w_965 rfl rfl rfl (Nat.le_of_ble_eq_true rfl) (kf hN (a := 2) (b := 12) (Nat.le_of_ble_eq_true rfl) (Nat.le_of_ble_eq_true rfl)) ?_
      show V X 2 12 _ 14 [some (vr (xG X) 0), some (vi x1), some (vi x2), none] [] M
      refine x_bipush hX dX11_setTimes_14 bp_100 ?_
      refine x_aloadn hX dX11_setTimes_16 rfl ?_
      refine x_getRj (j := 1) hX dX11_setTimes_17 fl_X11_10 rfl (st0 hs) rfl ?_
      refine x_getRj (j := 2) hX dX11_setTimes_20 fl_X11_79 rfl (st1 hs) rfl ?_
      refine x_getI hX dX11_setTimes_23 fl_X11_235 rfl (st2 hs) ?_
      refine x_imul hX dX11_setTimes_26 ?_
      refine x_aloadn hX dX11_setTimes_27 rfl ?_
      refine x_getRj (j := 1) hX dX11_setTimes_28 fl_X11_10 rfl (st0 hs) rfl ?_
      refine x_getRj (j := 2) hX dX11_setTimes_31 fl_X11_79 rfl (st1 hs) rfl ?_
      refine x_getI hX dX11_setTimes_34 fl_X11_238 rfl (st2 hs) ?_
      refine x_iadd hX dX11_setTimes_37 ?_
      obtain ⟨x3_7, ex3_7, h⟩ := bnd_of h
      refine x_istoren (ls' := [some (vr (xG X) 0), some (vi x1), some (vi x2), some (vi x3_7)]) hX dX11_setTimes_38 rfl ex3_7 rfl ?_
      refine x_aloadn hX dX11_setTimes_39 rfl ?_
      refine x_getRj (j := 1) hX dX11_setTimes_40 fl_X11_10 rfl (st0 hs) rfl ?_
      refine x_getRj (j := 2) hX dX11_setTimes_43 fl_X11_79 rfl (st1 hs) rfl ?_
      refine x_iloadn hX dX11_setTimes_46 rfl ?_
      obtain ⟨M_8, eM_8, h⟩ := bnd_of h
      refine x_putI hX dX11_setTimes_47 fp_X11_235 rfl (st2 hs) (x_meq eM_8 ?_)
      refine x_aloadn hX dX11_setTimes_50 rfl ?_
      refine x_getRj (j := 1) hX dX11_setTimes_51 fl_X11_10 rfl (st0 hs) rfl ?_
      refine x_getRj (j := 2) hX dX11_setTimes_54 fl_X11_79 rfl (st1 hs) rfl ?_
      refine x_iloadn hX dX11_setTimes_57 rfl ?_
      obtain ⟨M_9, eM_9, h⟩ := bnd_of h
      refine x_putI hX dX11_setTimes_58 fp_X11_238 rfl (st2 hs) (x_meq eM_9 ?_)
      refine x_iloadn hX dX11_setTimes_61 rfl ?_
      cases h
      exact x_iretX hX dX11_setTimes_62 (Nat.le_of_ble_eq_true rfl) (Nat.le_of_ble_eq_true rfl)
set_option maxRecDepth 100000 in
set_option maxHeartbeats 4000000 in
theorem ts_X11_appendText_29 {X : Cxt} (hX : Gd X RX11 cX11_appendText 3 (some .int) 2) (hN : NX X 1 6) (hs : SOK (xG X))  (x1 : Int) (x2 : Int) (M : Mem) {Q : State → Prop} (o : (Int × Mem) ⊕ ((Mem) ⊕ ((Nat ⊕ Int) × Mem))) (h : s_X11_appendText_29 x1 x2 M = some o) (hP : ∀ y, o = .inl y → V X 0 0 Q 29 [some (vr (xG X) 0), some (vi x1), some (vi y.1)] [] y.2) (hE : ∀ z, o = .inr (.inl z) → V X 0 0 Q 50 [some (vr (xG X) 0), none, none] [] z) (hR : ∀ q, o = .inr (.inr q) → Q = Qx X 1 6 (ovi q.1) q.2) : V X 0 0 Q 29 [some (vr (xG X) 0), some (vi x1), some (vi x2)] [] M := by
  unfold s_X11_appendText_29 at h
  refine x_iloadn hX dX11_appendText_29 rfl ?_
  refine x_if_lt (tgt := 50) hX dX11_appendText_30 (by decide) rfl (fun hc => ?_) (fun hc => ?_)
  · replace h := (if_pos hc).symm.trans h
    exact x_weak [true, false, false] rfl (hE M (Option.some.inj h).symm)
  · replace h := (if_neg hc).symm.trans h
    refine x_aloadn hX dX11_appendText_33 rfl ?_
    refine x_getRj (j := 38) hX dX11_appendText_34 fl_X11_26 rfl (st0 hs) rfl ?_
    refine x_iloadn hX dX11_appendText_37 rfl ?_
    refine x_iloadn hX dX11_appendText_38 rfl ?_
    refine x_ishr hX dX11_appendText_39 ?_
    refine x_i2b hX dX11_appendText_40 ?_
    obtain ⟨M_2, er_1, h⟩ := cl1_of h
    refine x_callVv (t := 9) (As := [vi (i_b (i_shr x1 x2))]) (rest := []) hX dX11_appendText_41 (c_X10_append (gk hX) (gl hX) hs (i_b (i_shr x1 x2)) M _ er_1) kX10_append vX10_append w_1596 (st38 hs) rfl rfl rfl rfl (Nat.le_of_ble_eq_true rfl) (kf hN (a := 0) (b := 0) (Nat.le_of_ble_eq_true rfl) (Nat.le_of_ble_eq_true rfl)) ?_
    obtain ⟨x2_3, ex2_3, h⟩ := bnd_of h
    refine x_iinc (ls' := [some (vr (xG X) 0), some (vi x1), some (vi x2_3)]) hX dX11_appendText_44 rfl rfl ex2_3 rfl ?_
    refine x_goto (tgt := 29) hX dX11_appendText_47 (by decide) ?_
    exact x_weak [true, true, true] rfl (hP (x2_3, M_2) (Option.some.inj h).symm)
set_option maxRecDepth 100000 in
set_option maxHeartbeats 4000000 in
theorem c_X11_appendText {l : Launch} {G : Gx} (hG : GOK G) (hl : l.stackTraces = false) (hs : SOK G)  (x1 : Int) (M : Mem) (r : Nat ⊕ Int) (Mr : Mem) (h : f_X11_appendText x1 M = some (r, Mr)) : Cx l G mX11_appendText 2 1 6 [vr G 0, vi x1] M (ovi r) Mr := by
  refine Cx_of2 (ls := [some (vr G 0), some (vi x1), none]) hG hl kX11_appendText rfl (Nat.le_of_ble_eq_true rfl) rfl rfl rfl rfl rfl (fun X eG el hX hN => ?_)
  subst eG; subst el
  unfold f_X11_appendText at h
  refine x_aloadn hX dX11_appendText_0 rfl ?_
  refine x_getRj (j := 38) hX dX11_appendText_1 fl_X11_26 rfl (st0 hs) rfl ?_
  refine x_getI hX dX11_appendText_4 fl_X11_330 rfl (st38 hs) ?_
  refine x_iconst hX dX11_appendText_7 ?_
  refine x_iadd hX dX11_appendText_8 ?_
  refine x_sipush hX dX11_appendText_9 sp_600 ?_
  refine x_icmp_le (tgt := 26) hX dX11_appendText_12 (by decide) rfl cw_600 (fun hc => ?_) (fun hc => ?_)
  · replace h := (if_pos hc).symm.trans h
    cases h
    exact x_thrW (x := 1) (k' := 25) hX hN dX11_appendText_15 dX11_appendText_18 dX11_appendText_19 dX11_appendText_22 dX11_appendText_25 thr_72_76 rfl (Nat.le_of_ble_eq_true rfl) (Nat.le_of_ble_eq_true rfl) (Nat.le_of_ble_eq_true rfl)
  · replace h := (if_neg hc).symm.trans h
    refine x_bipush hX dX11_appendText_26 bp_24 ?_
    refine x_istoren (ls' := [some (vr (xG X) 0), some (vi x1), some (vi 24)]) hX dX11_appendText_28 rfl rfl rfl ?_
    refine x_weak (ls' := [some (vr (xG X) 0), some (vi x1), some (vi 24)]) [true, true, true] rfl ?_
    refine lp_use (x := (24, M)) (P := fun x => V X 0 0 (Qx X 1 6 (ovi r) Mr) 29 [some (vr (xG X) 0), some (vi x1), some (vi x.1)] [] x.2) (PE := fun z_4 => V X 0 0 (Qx X 1 6 (ovi r) Mr) 50 [some (vr (xG X) 0), none, none] [] z_4) (PR := fun q => (Qx X 1 6 (ovi r) Mr) = Qx X 1 6 (ovi q.1) q.2) h (fun x o hh hP hE hR => ts_X11_appendText_29 hX hN hs x1 x.1 x.2 o hh hP hE hR) (fun z_4 h => ?_) (fun q h => ?_)
    · show V X 0 0 (Qx X 1 6 (ovi r) Mr) 50 [some (vr (xG X) 0), none, none] [] z_4
      refine x_aloadn hX dX11_appendText_50 rfl ?_
      refine x_getRj (j := 38) hX dX11_appendText_51 fl_X11_26 rfl (st0 hs) rfl ?_
      refine x_getI hX dX11_appendText_54 fl_X11_330 rfl (st38 hs) ?_
      cases h
      exact x_iretX hX dX11_appendText_57 (Nat.le_of_ble_eq_true rfl) (Nat.le_of_ble_eq_true rfl)
    · cases h; rfl
set_option maxRecDepth 100000 in
set_option maxHeartbeats 4000000 in
theorem c_X11_truncateText {l : Launch} {G : Gx} (hG : GOK G) (hl : l.stackTraces = false) (hs : SOK G)  (x1 : Int) (M : Mem) (r : Nat ⊕ Int) (Mr : Mem) (h : f_X11_truncateText x1 M = some (r, Mr)) : Cx l G mX11_truncateText 2 1 6 [vr G 0, vi x1] M (ovi r) Mr := by
  refine Cx_of2 (ls := [some (vr G 0), some (vi x1)]) hG hl kX11_truncateText rfl (Nat.le_of_ble_eq_true rfl) rfl rfl rfl rfl rfl (fun X eG el hX hN => ?_)
  subst eG; subst el
  unfold f_X11_truncateText at h
  refine x_iloadn hX dX11_truncateText_0 rfl ?_
  refine x_iconst hX dX11_truncateText_1 ?_
  refine x_aloadn hX dX11_truncateText_2 rfl ?_
  refine x_getRj (j := 38) hX dX11_truncateText_3 fl_X11_26 rfl (st0 hs) rfl ?_
  refine x_getI hX dX11_truncateText_6 fl_X11_330 rfl (st38 hs) ?_
  rcases cx1_of h with ⟨e_3, ee_3, h⟩ | ⟨r_1, er_1, h⟩
  · exact x_rs2 (f := ovi) h (x_xSt (As := [vi x1, vi 0, vi (M 38 1)]) (rest := []) hX hN dX11_truncateText_9 (c_X11_needArgument (gk hX) (gl hX) x1 0 (M 38 1) M _ ee_3) kX11_needArgument sX11_needArgument w_965 rfl rfl rfl (Nat.le_of_ble_eq_true rfl) (Nat.le_of_ble_eq_true rfl) (Nat.le_of_ble_eq_true rfl))
  · refine x_xSr (As := [vi x1, vi 0, vi (M 38 1)]) (rest := []) hX dX11_truncateText_9 (c_X11_needArgument (gk hX) (gl hX) x1 0 (M 38 1) M _ er_1) kX11_needArgument sX11_needArgument w_965 rfl rfl rfl (Nat.le_of_ble_eq_true rfl) (kf hN (a := 1) (b := 6) (Nat.le_of_ble_eq_true rfl) (Nat.le_of_ble_eq_true rfl)) ?_
    show V X 1 6 _ 12 [some (vr (xG X) 0), some (vi x1)] [] M
    refine x_aloadn hX dX11_truncateText_12 rfl ?_
    refine x_getRj (j := 38) hX dX11_truncateText_13 fl_X11_26 rfl (st0 hs) rfl ?_
    refine x_iloadn hX dX11_truncateText_16 rfl ?_
    obtain ⟨M_4, eM_4, h⟩ := bnd_of h
    refine x_putI hX dX11_truncateText_17 fp_X11_330 rfl (st38 hs) (x_meq eM_4 ?_)
    refine x_iloadn hX dX11_truncateText_20 rfl ?_
    cases h
    exact x_iretX hX dX11_truncateText_21 (Nat.le_of_ble_eq_true rfl) (Nat.le_of_ble_eq_true rfl)
set_option maxRecDepth 100000 in
set_option maxHeartbeats 4000000 in
theorem c_X11_needAisle {l : Launch} {G : Gx} (hG : GOK G) (hl : l.stackTraces = false) (hs : SOK G)  (x1 : Int) (M : Mem) (r : Nat ⊕ Unit) (h : f_X11_needAisle x1 M = some r) : Cx l G mX11_needAisle 2 1 6 [vr G 0, vi x1] M (ovu r) M := by
  refine Cx_of2 (ls := [some (vr G 0), some (vi x1)]) hG hl kX11_needAisle rfl (Nat.le_of_ble_eq_true rfl) rfl rfl rfl rfl rfl (fun X eG el hX hN => ?_)
  subst eG; subst el
  unfold f_X11_needAisle at h
  refine x_iloadn hX dX11_needAisle_0 rfl ?_
  refine x_aloadn hX dX11_needAisle_1 rfl ?_
  refine x_getRj (j := 1) hX dX11_needAisle_2 fl_X11_10 rfl (st0 hs) rfl ?_
  refine x_getRj (j := 2) hX dX11_needAisle_5 fl_X11_79 rfl (st1 hs) rfl ?_
  refine x_getI hX dX11_needAisle_8 fl_X11_88 rfl (st2 hs) ?_
  rcases cx1_of h with ⟨e_3, ee_3, h⟩ | ⟨r_1, er_1, h⟩
  · exact x_rs1 (f := ovu) h (x_xSt (As := [vi x1, vi (M 2 0)]) (rest := []) hX hN dX11_needAisle_11 (c_X11_needIndex (gk hX) (gl hX) x1 (M 2 0) M _ ee_3) kX11_needIndex sX11_needIndex w_1064 rfl rfl rfl (Nat.le_of_ble_eq_true rfl) (Nat.le_of_ble_eq_true rfl) (Nat.le_of_ble_eq_true rfl))
  · refine x_xSr (As := [vi x1, vi (M 2 0)]) (rest := []) hX dX11_needAisle_11 (c_X11_needIndex (gk hX) (gl hX) x1 (M 2 0) M _ er_1) kX11_needIndex sX11_needIndex w_1064 rfl rfl rfl (Nat.le_of_ble_eq_true rfl) (kf hN (a := 1) (b := 6) (Nat.le_of_ble_eq_true rfl) (Nat.le_of_ble_eq_true rfl)) ?_
    show V X 1 6 _ 14 [some (vr (xG X) 0), some (vi x1)] [] M
    cases h
    exact x_vretX hX dX11_needAisle_14 (Nat.le_of_ble_eq_true rfl) (Nat.le_of_ble_eq_true rfl)
set_option maxRecDepth 100000 in
set_option maxHeartbeats 4000000 in
theorem c_X11_needZone {l : Launch} {G : Gx} (hG : GOK G) (hl : l.stackTraces = false) (hs : SOK G)  (x1 : Int) (M : Mem) (r : Nat ⊕ Unit) (h : f_X11_needZone x1 M = some r) : Cx l G mX11_needZone 2 1 6 [vr G 0, vi x1] M (ovu r) M := by
  refine Cx_of2 (ls := [some (vr G 0), some (vi x1)]) hG hl kX11_needZone rfl (Nat.le_of_ble_eq_true rfl) rfl rfl rfl rfl rfl (fun X eG el hX hN => ?_)
  subst eG; subst el
  unfold f_X11_needZone at h
  refine x_iloadn hX dX11_needZone_0 rfl ?_
  refine x_aloadn hX dX11_needZone_1 rfl ?_
  refine x_getRj (j := 1) hX dX11_needZone_2 fl_X11_10 rfl (st0 hs) rfl ?_
  refine x_getRj (j := 2) hX dX11_needZone_5 fl_X11_79 rfl (st1 hs) rfl ?_
  refine x_getI hX dX11_needZone_8 fl_X11_226 rfl (st2 hs) ?_
  rcases cx1_of h with ⟨e_3, ee_3, h⟩ | ⟨r_1, er_1, h⟩
  · exact x_rs1 (f := ovu) h (x_xSt (As := [vi x1, vi (M 2 3)]) (rest := []) hX hN dX11_needZone_11 (c_X11_needIndex (gk hX) (gl hX) x1 (M 2 3) M _ ee_3) kX11_needIndex sX11_needIndex w_1064 rfl rfl rfl (Nat.le_of_ble_eq_true rfl) (Nat.le_of_ble_eq_true rfl) (Nat.le_of_ble_eq_true rfl))
  · refine x_xSr (As := [vi x1, vi (M 2 3)]) (rest := []) hX dX11_needZone_11 (c_X11_needIndex (gk hX) (gl hX) x1 (M 2 3) M _ er_1) kX11_needIndex sX11_needIndex w_1064 rfl rfl rfl (Nat.le_of_ble_eq_true rfl) (kf hN (a := 1) (b := 6) (Nat.le_of_ble_eq_true rfl) (Nat.le_of_ble_eq_true rfl)) ?_
    show V X 1 6 _ 14 [some (vr (xG X) 0), some (vi x1)] [] M
    cases h
    exact x_vretX hX dX11_needZone_14 (Nat.le_of_ble_eq_true rfl) (Nat.le_of_ble_eq_true rfl)
set_option maxRecDepth 100000 in
set_option maxHeartbeats 4000000 in
theorem c_X11_needItem {l : Launch} {G : Gx} (hG : GOK G) (hl : l.stackTraces = false) (hs : SOK G)  (x1 : Int) (M : Mem) (r : Nat ⊕ Unit) (h : f_X11_needItem x1 M = some r) : Cx l G mX11_needItem 2 1 6 [vr G 0, vi x1] M (ovu r) M := by
  refine Cx_of2 (ls := [some (vr G 0), some (vi x1)]) hG hl kX11_needItem rfl (Nat.le_of_ble_eq_true rfl) rfl rfl rfl rfl rfl (fun X eG el hX hN => ?_)
  subst eG; subst el
  unfold f_X11_needItem at h
  refine x_iloadn hX dX11_needItem_0 rfl ?_
  refine x_aloadn hX dX11_needItem_1 rfl ?_
  refine x_getRj (j := 1) hX dX11_needItem_2 fl_X11_10 rfl (st0 hs) rfl ?_
  refine x_getRj (j := 5) hX dX11_needItem_5 fl_X11_62 rfl (st1 hs) rfl ?_
  refine x_getI hX dX11_needItem_8 fl_X11_66 rfl (st5 hs) ?_
  rcases cx1_of h with ⟨e_3, ee_3, h⟩ | ⟨r_1, er_1, h⟩
  · exact x_rs1 (f := ovu) h (x_xSt (As := [vi x1, vi (M 5 0)]) (rest := []) hX hN dX11_needItem_11 (c_X11_needIndex (gk hX) (gl hX) x1 (M 5 0) M _ ee_3) kX11_needIndex sX11_needIndex w_1064 rfl rfl rfl (Nat.le_of_ble_eq_true rfl) (Nat.le_of_ble_eq_true rfl) (Nat.le_of_ble_eq_true rfl))
  · refine x_xSr (As := [vi x1, vi (M 5 0)]) (rest := []) hX dX11_needItem_11 (c_X11_needIndex (gk hX) (gl hX) x1 (M 5 0) M _ er_1) kX11_needIndex sX11_needIndex w_1064 rfl rfl rfl (Nat.le_of_ble_eq_true rfl) (kf hN (a := 1) (b := 6) (Nat.le_of_ble_eq_true rfl) (Nat.le_of_ble_eq_true rfl)) ?_
    show V X 1 6 _ 14 [some (vr (xG X) 0), some (vi x1)] [] M
    cases h
    exact x_vretX hX dX11_needItem_14 (Nat.le_of_ble_eq_true rfl) (Nat.le_of_ble_eq_true rfl)
set_option maxRecDepth 100000 in
set_option maxHeartbeats 4000000 in
theorem c_X11_needOrder {l : Launch} {G : Gx} (hG : GOK G) (hl : l.stackTraces = false) (hs : SOK G)  (x1 : Int) (M : Mem) (r : Nat ⊕ Unit) (h : f_X11_needOrder x1 M = some r) : Cx l G mX11_needOrder 2 1 6 [vr G 0, vi x1] M (ovu r) M := by
  refine Cx_of2 (ls := [some (vr G 0), some (vi x1)]) hG hl kX11_needOrder rfl (Nat.le_of_ble_eq_true rfl) rfl rfl rfl rfl rfl (fun X eG el hX hN => ?_)
  subst eG; subst el
  unfold f_X11_needOrder at h
  refine x_iloadn hX dX11_needOrder_0 rfl ?_
  refine x_aloadn hX dX11_needOrder_1 rfl ?_
  refine x_getRj (j := 1) hX dX11_needOrder_2 fl_X11_10 rfl (st0 hs) rfl ?_
  refine x_getRj (j := 10) hX dX11_needOrder_5 fl_X11_118 rfl (st1 hs) rfl ?_
  refine x_getI hX dX11_needOrder_8 fl_X11_146 rfl (st10 hs) ?_
  rcases cx1_of h with ⟨e_3, ee_3, h⟩ | ⟨r_1, er_1, h⟩
  · exact x_rs1 (f := ovu) h (x_xSt (As := [vi x1, vi (M 10 0)]) (rest := []) hX hN dX11_needOrder_11 (c_X11_needIndex (gk hX) (gl hX) x1 (M 10 0) M _ ee_3) kX11_needIndex sX11_needIndex w_1064 rfl rfl rfl (Nat.le_of_ble_eq_true rfl) (Nat.le_of_ble_eq_true rfl) (Nat.le_of_ble_eq_true rfl))
  · refine x_xSr (As := [vi x1, vi (M 10 0)]) (rest := []) hX dX11_needOrder_11 (c_X11_needIndex (gk hX) (gl hX) x1 (M 10 0) M _ er_1) kX11_needIndex sX11_needIndex w_1064 rfl rfl rfl (Nat.le_of_ble_eq_true rfl) (kf hN (a := 1) (b := 6) (Nat.le_of_ble_eq_true rfl) (Nat.le_of_ble_eq_true rfl)) ?_
    show V X 1 6 _ 14 [some (vr (xG X) 0), some (vi x1)] [] M
    cases h
    exact x_vretX hX dX11_needOrder_14 (Nat.le_of_ble_eq_true rfl) (Nat.le_of_ble_eq_true rfl)
set_option maxRecDepth 100000 in
set_option maxHeartbeats 4000000 in
theorem c_X11_needBatch {l : Launch} {G : Gx} (hG : GOK G) (hl : l.stackTraces = false) (hs : SOK G)  (x1 : Int) (M : Mem) (r : Nat ⊕ Unit) (h : f_X11_needBatch x1 M = some r) : Cx l G mX11_needBatch 2 1 6 [vr G 0, vi x1] M (ovu r) M := by
  refine Cx_of2 (ls := [some (vr G 0), some (vi x1)]) hG hl kX11_needBatch rfl (Nat.le_of_ble_eq_true rfl) rfl rfl rfl rfl rfl (fun X eG el hX hN => ?_)
  subst eG; subst el
  unfold f_X11_needBatch at h
  refine x_iloadn hX dX11_needBatch_0 rfl ?_
  refine x_aloadn hX dX11_needBatch_1 rfl ?_
  refine x_getRj (j := 1) hX dX11_needBatch_2 fl_X11_10 rfl (st0 hs) rfl ?_
  refine x_getRj (j := 17) hX dX11_needBatch_5 fl_X11_159 rfl (st1 hs) rfl ?_
  refine x_getI hX dX11_needBatch_8 fl_X11_168 rfl (st17 hs) ?_
  rcases cx1_of h with ⟨e_3, ee_3, h⟩ | ⟨r_1, er_1, h⟩
  · exact x_rs1 (f := ovu) h (x_xSt (As := [vi x1, vi (M 17 0)]) (rest := []) hX hN dX11_needBatch_11 (c_X11_needIndex (gk hX) (gl hX) x1 (M 17 0) M _ ee_3) kX11_needIndex sX11_needIndex w_1064 rfl rfl rfl (Nat.le_of_ble_eq_true rfl) (Nat.le_of_ble_eq_true rfl) (Nat.le_of_ble_eq_true rfl))
  · refine x_xSr (As := [vi x1, vi (M 17 0)]) (rest := []) hX dX11_needBatch_11 (c_X11_needIndex (gk hX) (gl hX) x1 (M 17 0) M _ er_1) kX11_needIndex sX11_needIndex w_1064 rfl rfl rfl (Nat.le_of_ble_eq_true rfl) (kf hN (a := 1) (b := 6) (Nat.le_of_ble_eq_true rfl) (Nat.le_of_ble_eq_true rfl)) ?_
    show V X 1 6 _ 14 [some (vr (xG X) 0), some (vi x1)] [] M
    cases h
    exact x_vretX hX dX11_needBatch_14 (Nat.le_of_ble_eq_true rfl) (Nat.le_of_ble_eq_true rfl)
set_option maxRecDepth 100000 in
set_option maxHeartbeats 4000000 in
theorem c_X11_needBatchLimits {l : Launch} {G : Gx} (hG : GOK G) (hl : l.stackTraces = false)  (x0 : Int) (x1 : Int) (M : Mem) (r : Nat ⊕ Unit) (h : f_X11_needBatchLimits x0 x1 M = some r) : Cx l G mX11_needBatchLimits 2 2 12 [vi x0, vi x1] M (ovu r) M := by
  refine Cx_of2 (ls := [some (vi x0), some (vi x1)]) hG hl kX11_needBatchLimits rfl (Nat.le_of_ble_eq_true rfl) rfl rfl rfl rfl rfl (fun X eG el hX hN => ?_)
  subst eG; subst el
  unfold f_X11_needBatchLimits at h
  refine x_iloadn hX dX11_needBatchLimits_0 rfl ?_
  refine x_iconst hX dX11_needBatchLimits_1 ?_
  refine x_bipush hX dX11_needBatchLimits_2 bp_6 ?_
  rcases cx1_of h with ⟨e_3, ee_3, h⟩ | ⟨r_1, er_1, h⟩
  · exact x_rs1 (f := ovu) h (x_xSt (As := [vi x0, vi 1, vi 6]) (rest := []) hX hN dX11_needBatchLimits_4 (c_X11_needArgument (gk hX) (gl hX) x0 1 6 M _ ee_3) kX11_needArgument sX11_needArgument w_965 rfl rfl rfl (Nat.le_of_ble_eq_true rfl) (Nat.le_of_ble_eq_true rfl) (Nat.le_of_ble_eq_true rfl))
  · refine x_xSr (As := [vi x0, vi 1, vi 6]) (rest := []) hX dX11_needBatchLimits_4 (c_X11_needArgument (gk hX) (gl hX) x0 1 6 M _ er_1) kX11_needArgument sX11_needArgument w_965 rfl rfl rfl (Nat.le_of_ble_eq_true rfl) (kf hN (a := 1) (b := 6) (Nat.le_of_ble_eq_true rfl) (Nat.le_of_ble_eq_true rfl)) ?_
    show V X 1 6 _ 7 [some (vi x0), some (vi x1)] [] M
    refine x_iloadn hX dX11_needBatchLimits_7 rfl ?_
    refine x_iconst hX dX11_needBatchLimits_8 ?_
    refine x_ldcw hX dX11_needBatchLimits_9 w_1218 ?_
    rcases cx1_of h with ⟨e_6, ee_6, h⟩ | ⟨r_4, er_4, h⟩
    · exact x_rs1 (f := ovu) h (x_xSt (As := [vi x1, vi 1, vi 99999]) (rest := []) hX hN dX11_needBatchLimits_12 (c_X11_needArgument (gk hX) (gl hX) x1 1 99999 M _ ee_6) kX11_needArgument sX11_needArgument w_965 rfl rfl rfl (Nat.le_of_ble_eq_true rfl) (Nat.le_of_ble_eq_true rfl) (Nat.le_of_ble_eq_true rfl))
    · refine x_xSr (As := [vi x1, vi 1, vi 99999]) (rest := []) hX dX11_needBatchLimits_12 (c_X11_needArgument (gk hX) (gl hX) x1 1 99999 M _ er_4) kX11_needArgument sX11_needArgument w_965 rfl rfl rfl (Nat.le_of_ble_eq_true rfl) (kf hN (a := 2) (b := 12) (Nat.le_of_ble_eq_true rfl) (Nat.le_of_ble_eq_true rfl)) ?_
      show V X 2 12 _ 15 [some (vi x0), some (vi x1)] [] M
      cases h
      exact x_vretX hX dX11_needBatchLimits_15 (Nat.le_of_ble_eq_true rfl) (Nat.le_of_ble_eq_true rfl)
set_option maxRecDepth 100000 in
set_option maxHeartbeats 4000000 in
theorem c_X11_batchedOrders {l : Launch} {G : Gx} (hG : GOK G) (hl : l.stackTraces = false) (hs : SOK G)  (M : Mem) (r : Int) (h : f_X11_batchedOrders M = some r) : Cn l G mX11_batchedOrders 2 [vr G 0] M (some (vi r)) M := by
  refine Cn_of2 (ls := [some (vr G 0)]) hG hl kX11_batchedOrders rfl (Nat.le_of_ble_eq_true rfl) rfl rfl rfl rfl rfl (fun X eG el hX => ?_)
  subst eG; subst el
  unfold f_X11_batchedOrders at h
  refine x_iconst hX dX11_batchedOrders_0 ?_
  refine x_aloadn hX dX11_batchedOrders_1 rfl ?_
  refine x_getRj (j := 1) hX dX11_batchedOrders_2 fl_X11_10 rfl (st0 hs) rfl ?_
  refine x_getRj (j := 10) hX dX11_batchedOrders_5 fl_X11_118 rfl (st1 hs) rfl ?_
  refine x_iconst hX dX11_batchedOrders_8 ?_
  obtain ⟨r_1, er_1, h⟩ := cl1_of h
  refine x_callVi (t := 5) (As := [vi 1]) (rest := [vi 1]) hX dX11_batchedOrders_9 (c_X5_countIn (gk hX) (gl hX) (st10 hs) 1 M _ er_1) kX5_countIn vX5_countIn w_727 (st10 hs) rfl rfl rfl rfl (Nat.le_of_ble_eq_true rfl) z0 ?_
  refine x_max (st := []) hX dX11_batchedOrders_12 maxw_X11_371 (Nat.le_of_ble_eq_true rfl) z0 ?_
  cases h
  exact x_iret hX dX11_batchedOrders_15 rfl
set_option maxRecDepth 100000 in
set_option maxHeartbeats 4000000 in
theorem c_X0_takeFrom {l : Launch} {G : Gx} (hG : GOK G) (hl : l.stackTraces = false) {th : Nat} (h0 : at_ G th 10 0) (x1 : Int) (x2 : Int) (M : Mem) (Mr : Mem) (h : f_X0_takeFrom th x1 x2 M = some Mr) : Cn l G mX0_takeFrom 2 [vr G th, vi x1, vi x2] M none Mr := by
  refine Cn_of2 (ls := [some (vr G th), some (vi x1), some (vi x2)]) hG hl kX0_takeFrom rfl (Nat.le_of_ble_eq_true rfl) rfl rfl rfl rfl rfl (fun X eG el hX => ?_)
  subst eG; subst el
  unfold f_X0_takeFrom at h
  refine x_aloadn hX dX0_takeFrom_0 rfl ?_
  refine x_getRj (j := th + 1) hX dX0_takeFrom_1 fl_X0_9 rfl h0 rfl ?_
  refine x_iloadn hX dX0_takeFrom_4 rfl ?_
  refine x_dup2 hX dX0_takeFrom_5 rfl rfl ?_
  obtain ⟨b_1, h⟩ := gi_of h
  refine x_iald hX dX0_takeFrom_6 (fo_0_1 (gk hX) h0) b_1 rfl ?_
  refine x_iconst hX dX0_takeFrom_7 ?_
  refine x_iloadn hX dX0_takeFrom_8 rfl ?_
  refine x_ishl hX dX0_takeFrom_9 ?_
  refine x_iconst hX dX0_takeFrom_10 ?_
  refine x_ixor hX dX0_takeFrom_11 ?_
  refine x_iand hX dX0_takeFrom_12 ?_
  obtain ⟨b_3, h⟩ := gi_of h
  obtain ⟨M_2, eM_2, h⟩ := bnd_of h
  refine x_iast hX dX0_takeFrom_13 (fo_0_1 (gk hX) h0) b_3 rfl (x_meq eM_2 ?_)
  refine x_aloadn hX dX0_takeFrom_14 rfl ?_
  refine x_getRj (j := th + 1) hX dX0_takeFrom_15 fl_X0_9 rfl h0 rfl ?_
  refine x_iloadn hX dX0_takeFrom_18 rfl ?_
  obtain ⟨b_4, h⟩ := gi_of h
  refine x_iald hX dX0_takeFrom_19 (fo_0_1 (gk hX) h0) b_4 rfl ?_
  refine x_if_ne (tgt := 28) hX dX0_takeFrom_20 (by decide) rfl (fun hc => ?_) (fun hc => ?_)
  · replace h := (if_pos hc).symm.trans h
    refine x_aloadn hX dX0_takeFrom_23 rfl ?_
    refine x_iloadn hX dX0_takeFrom_24 rfl ?_
    obtain ⟨M_6, er_5, h⟩ := cl1_of h
    refine x_callVv (t := 0) (As := [vi x1]) (rest := []) hX dX0_takeFrom_25 (c_X0_drop (gk hX) (gl hX) h0 x1 M_2 _ er_5) kX0_drop vX0_drop w_1204 h0 rfl rfl rfl rfl (Nat.le_of_ble_eq_true rfl) z0 ?_
    cases h
    exact x_vret hX dX0_takeFrom_28 rfl
  · replace h := (if_neg hc).symm.trans h
    cases h
    exact x_vret hX dX0_takeFrom_28 rfl
set_option maxRecDepth 100000 in
set_option maxHeartbeats 4000000 in
theorem c_X1_copyFrom {l : Launch} {G : Gx} (hG : GOK G) (hl : l.stackTraces = false) {th : Nat} (h0 : at_ G th 11 0) {a1 : Nat} (h1 : at_ G a1 11 0) (M : Mem) (Mr : Mem) (h : f_X1_copyFrom th a1 M = some Mr) : Cn l G mX1_copyFrom 2 [vr G th, vr G a1] M none Mr := by
  refine Cn_of2 (ls := [some (vr G th), some (vr G a1)]) hG hl kX1_copyFrom rfl (Nat.le_of_ble_eq_true rfl) rfl rfl rfl rfl rfl (fun X eG el hX => ?_)
  subst eG; subst el
  unfold f_X1_copyFrom at h
  refine x_aloadn hX dX1_copyFrom_0 rfl ?_
  refine x_getRj (j := th + 1) hX dX1_copyFrom_1 fl_X1_12 rfl h0 rfl ?_
  refine x_aloadn hX dX1_copyFrom_4 rfl ?_
  refine x_getRj (j := a1 + 1) hX dX1_copyFrom_5 fl_X1_12 rfl h1 rfl ?_
  obtain ⟨M_2, er_1, h⟩ := cl1_of h
  refine x_callVv (t := 3) (As := [vr (xG X) (a1 + 1)]) (rest := []) hX dX1_copyFrom_8 (c_X3_copyFrom (gk hX) (gl hX) (fo_1_0 (gk hX) h0) (fo_1_0 (gk hX) h1) M _ er_1) kX3_copyFrom vX3_copyFrom w_926 (fo_1_0 (gk hX) h0) rfl rfl rfl rfl (Nat.le_of_ble_eq_true rfl) z0 ?_
  refine x_aloadn hX dX1_copyFrom_11 rfl ?_
  refine x_getRj (j := th + 4) hX dX1_copyFrom_12 fl_X1_21 rfl h0 rfl ?_
  refine x_aloadn hX dX1_copyFrom_15 rfl ?_
  refine x_getRj (j := a1 + 4) hX dX1_copyFrom_16 fl_X1_21 rfl h1 rfl ?_
  obtain ⟨M_4, er_3, h⟩ := cl1_of h
  refine x_callVv (t := 2) (As := [vr (xG X) (a1 + 4)]) (rest := []) hX dX1_copyFrom_19 (c_X2_copyFrom (gk hX) (gl hX) (fo_1_1 (gk hX) h0) (fo_1_1 (gk hX) h1) M_2 _ er_3) kX2_copyFrom vX2_copyFrom w_933 (fo_1_1 (gk hX) h0) rfl rfl rfl rfl (Nat.le_of_ble_eq_true rfl) z0 ?_
  refine x_aloadn hX dX1_copyFrom_22 rfl ?_
  refine x_getRj (j := th + 9) hX dX1_copyFrom_23 fl_X1_28 rfl h0 rfl ?_
  refine x_aloadn hX dX1_copyFrom_26 rfl ?_
  refine x_getRj (j := a1 + 9) hX dX1_copyFrom_27 fl_X1_28 rfl h1 rfl ?_
  obtain ⟨M_6, er_5, h⟩ := cl1_of h
  refine x_callVv (t := 5) (As := [vr (xG X) (a1 + 9)]) (rest := []) hX dX1_copyFrom_30 (c_X5_copyFrom (gk hX) (gl hX) (fo_1_2 (gk hX) h0) (fo_1_2 (gk hX) h1) M_4 _ er_5) kX5_copyFrom vX5_copyFrom w_938 (fo_1_2 (gk hX) h0) rfl rfl rfl rfl (Nat.le_of_ble_eq_true rfl) z0 ?_
  refine x_aloadn hX dX1_copyFrom_33 rfl ?_
  refine x_getRj (j := th + 16) hX dX1_copyFrom_34 fl_X1_35 rfl h0 rfl ?_
  refine x_aloadn hX dX1_copyFrom_37 rfl ?_
  refine x_getRj (j := a1 + 16) hX dX1_copyFrom_38 fl_X1_35 rfl h1 rfl ?_
  obtain ⟨M_8, er_7, h⟩ := cl1_of h
  refine x_callVv (t := 0) (As := [vr (xG X) (a1 + 16)]) (rest := []) hX dX1_copyFrom_41 (c_X0_copyFrom (gk hX) (gl hX) (fo_1_3 (gk hX) h0) (fo_1_3 (gk hX) h1) M_6 _ er_7) kX0_copyFrom vX0_copyFrom w_943 (fo_1_3 (gk hX) h0) rfl rfl rfl rfl (Nat.le_of_ble_eq_true rfl) z0 ?_
  cases h
  exact x_vret hX dX1_copyFrom_44 rfl
set_option maxRecDepth 100000 in
set_option maxHeartbeats 4000000 in
theorem tj_X1_weightOfAll_31_4 {X : Cxt} (hX : Gd X RX1 cX1_weightOfAll 4 (some .int) 2) {th : Nat} (h0 : at_ (xG X) th 11 0)  (x1 : Int) (x2 : Int) (x3 : Int) (M : Mem) {Q : State → Prop} (o : (Int × Int) ⊕ ((Int) ⊕ (Int))) (h : j_X1_weightOfAll_31_4 th x1 x2 x3 M = some o) (hP : ∀ y, o = .inl y → V X 0 0 Q 4 [some (vr (xG X) th), some (vi x1), some (vi y.1), some (vi y.2)] [] M) (hE : ∀ z, o = .inr (.inl z) → V X 0 0 Q 37 [none, none, some (vi z), none] [] M) (hR : ∀ q, o = .inr (.inr q) → Q = Qn X (some (vi q)) M) : V X 0 0 Q 31 [some (vr (xG X) th), some (vi x1), some (vi x2), some (vi x3)] [] M := by
  unfold j_X1_weightOfAll_31_4 at h
  obtain ⟨x3_1, ex3_1, h⟩ := bnd_of h
  refine x_iinc (ls' := [some (vr (xG X) th), some (vi x1), some (vi x2), some (vi x3_1)]) hX dX1_weightOfAll_31 rfl rfl ex3_1 rfl ?_
  refine x_goto (tgt := 4) hX dX1_weightOfAll_34 (by decide) ?_
  exact x_weak [true, true, true, true] rfl (hP (x2, x3_1) (Option.some.inj h).symm)
set_option maxRecDepth 100000 in
set_option maxHeartbeats 4000000 in
theorem ts_X1_weightOfAll_4 {X : Cxt} (hX : Gd X RX1 cX1_weightOfAll 4 (some .int) 2) {th : Nat} (h0 : at_ (xG X) th 11 0) (x1 : Int) (M : Mem) (x2 : Int) (x3 : Int) {Q : State → Prop} (o : (Int × Int) ⊕ ((Int) ⊕ (Int))) (h : s_X1_weightOfAll_4 th x1 M x2 x3 = some o) (hP : ∀ y, o = .inl y → V X 0 0 Q 4 [some (vr (xG X) th), some (vi x1), some (vi y.1), some (vi y.2)] [] M) (hE : ∀ z, o = .inr (.inl z) → V X 0 0 Q 37 [none, none, some (vi z), none] [] M) (hR : ∀ q, o = .inr (.inr q) → Q = Qn X (some (vi q)) M) : V X 0 0 Q 4 [some (vr (xG X) th), some (vi x1), some (vi x2), some (vi x3)] [] M := by
  unfold s_X1_weightOfAll_4 at h
  refine x_iloadn hX dX1_weightOfAll_4 rfl ?_
  refine x_aloadn hX dX1_weightOfAll_5 rfl ?_
  refine x_getRj (j := th + 9) hX dX1_weightOfAll_6 fl_X1_28 rfl h0 rfl ?_
  refine x_getI hX dX1_weightOfAll_9 fl_X1_46 rfl (fo_1_2 (gk hX) h0) ?_
  refine x_icmp_ge (tgt := 37) hX dX1_weightOfAll_12 (by decide) rfl rfl (fun hc => ?_) (fun hc => ?_)
  · replace h := (if_pos hc).symm.trans h
    refine x_iloadn hX dX1_weightOfAll_15 rfl ?_
    refine x_iloadn hX dX1_weightOfAll_16 rfl ?_
    refine x_ishr hX dX1_weightOfAll_17 ?_
    refine x_iconst hX dX1_weightOfAll_18 ?_
    refine x_iand hX dX1_weightOfAll_19 ?_
    refine x_if_eq (tgt := 31) hX dX1_weightOfAll_20 (by decide) rfl (fun hc => ?_) (fun hc => ?_)
    · replace h := (if_pos hc).symm.trans h
      exact x_weak [true, true, true, true] rfl (tj_X1_weightOfAll_31_4 hX h0 x1 x2 x3 M o h hP hE hR)
    · replace h := (if_neg hc).symm.trans h
      refine x_iloadn hX dX1_weightOfAll_23 rfl ?_
      refine x_aloadn hX dX1_weightOfAll_24 rfl ?_
      refine x_iloadn hX dX1_weightOfAll_25 rfl ?_
      obtain ⟨r_2, er_2, h⟩ := cl1_of h
      refine x_callVi (t := 1) (As := [vi x3]) (rest := [vi x2]) hX dX1_weightOfAll_26 (c_X1_weightOf (gk hX) (gl hX) h0 x3 M _ er_2) kX1_weightOf vX1_weightOf w_1250 h0 rfl rfl rfl rfl (Nat.le_of_ble_eq_true rfl) z0 ?_
      refine x_iadd hX dX1_weightOfAll_29 ?_
      obtain ⟨x2_4, ex2_4, h⟩ := bnd_of h
      refine x_istoren (ls' := [some (vr (xG X) th), some (vi x1), some (vi x2_4), some (vi x3)]) hX dX1_weightOfAll_30 rfl ex2_4 rfl ?_
      exact x_weak [true, true, true, true] rfl (tj_X1_weightOfAll_31_4 hX h0 x1 x2_4 x3 M o h hP hE hR)
  · replace h := (if_neg hc).symm.trans h
    exact x_weak [false, false, true, false] rfl (hE x2 (Option.some.inj h).symm)
set_option maxRecDepth 100000 in
set_option maxHeartbeats 4000000 in
theorem c_X1_weightOfAll {l : Launch} {G : Gx} (hG : GOK G) (hl : l.stackTraces = false) {th : Nat} (h0 : at_ G th 11 0) (x1 : Int) (M : Mem) (r : Int) (h : f_X1_weightOfAll th x1 M = some r) : Cn l G mX1_weightOfAll 2 [vr G th, vi x1] M (some (vi r)) M := by
  refine Cn_of2 (ls := [some (vr G th), some (vi x1), none, none]) hG hl kX1_weightOfAll rfl (Nat.le_of_ble_eq_true rfl) rfl rfl rfl rfl rfl (fun X eG el hX => ?_)
  subst eG; subst el
  unfold f_X1_weightOfAll at h
  refine x_iconst hX dX1_weightOfAll_0 ?_
  refine x_istoren (ls' := [some (vr (xG X) th), some (vi x1), some (vi 0), none]) hX dX1_weightOfAll_1 rfl rfl rfl ?_
  refine x_iconst hX dX1_weightOfAll_2 ?_
  refine x_istoren (ls' := [some (vr (xG X) th), some (vi x1), some (vi 0), some (vi 0)]) hX dX1_weightOfAll_3 rfl rfl rfl ?_
  refine x_weak (ls' := [some (vr (xG X) th), some (vi x1), some (vi 0), some (vi 0)]) [true, true, true, true] rfl ?_
  refine lp_use (x := (0, 0)) (P := fun x => V X 0 0 (Qn X (some (vi r)) M) 4 [some (vr (xG X) th), some (vi x1), some (vi x.1), some (vi x.2)] [] M) (PE := fun z_5 => V X 0 0 (Qn X (some (vi r)) M) 37 [none, none, some (vi z_5), none] [] M) (PR := fun q => (Qn X (some (vi r)) M) = Qn X (some (vi q)) M) h (fun x o hh hP hE hR => ts_X1_weightOfAll_4 hX h0 x1 M x.1 x.2 o hh hP hE hR) (fun z_5 h => ?_) (fun q h => ?_)
  · show V X 0 0 (Qn X (some (vi r)) M) 37 [none, none, some (vi z_5), none] [] M
    refine x_iloadn hX dX1_weightOfAll_37 rfl ?_
    cases h
    exact x_iret hX dX1_weightOfAll_38 rfl
  · cases h; rfl
set_option maxRecDepth 100000 in
set_option maxHeartbeats 4000000 in
theorem c_X1_openBatch {l : Launch} {G : Gx} (hG : GOK G) (hl : l.stackTraces = false) {th : Nat} (h0 : at_ G th 11 0) (x1 : Int) (M : Mem) (r : Int) (Mr : Mem) (h : f_X1_openBatch th x1 M = some (r, Mr)) : Cn l G mX1_openBatch 2 [vr G th, vi x1] M (some (vi r)) Mr := by
  refine Cn_of2 (ls := [some (vr G th), some (vi x1)]) hG hl kX1_openBatch rfl (Nat.le_of_ble_eq_true rfl) rfl rfl rfl rfl rfl (fun X eG el hX => ?_)
  subst eG; subst el
  unfold f_X1_openBatch at h
  refine x_aloadn hX dX1_openBatch_0 rfl ?_
  refine x_getRj (j := th + 9) hX dX1_openBatch_1 fl_X1_28 rfl h0 rfl ?_
  refine x_iloadn hX dX1_openBatch_4 rfl ?_
  refine x_iconst hX dX1_openBatch_5 ?_
  obtain ⟨M_2, er_1, h⟩ := cl1_of h
  refine x_callVv (t := 5) (As := [vi x1, vi 1]) (rest := []) hX dX1_openBatch_6 (c_X5_setStates (gk hX) (gl hX) (fo_1_2 (gk hX) h0) x1 1 M _ er_1) kX5_setStates vX5_setStates w_1256 (fo_1_2 (gk hX) h0) rfl rfl rfl rfl (Nat.le_of_ble_eq_true rfl) z0 ?_
  refine x_aloadn hX dX1_openBatch_9 rfl ?_
  refine x_getRj (j := th + 16) hX dX1_openBatch_10 fl_X1_35 rfl h0 rfl ?_
  refine x_iloadn hX dX1_openBatch_13 rfl ?_
  obtain ⟨r_3, M_4, er_3, h⟩ := cl2_of h
  refine x_callVi (t := 0) (As := [vi x1]) (rest := []) hX dX1_openBatch_14 (c_X0_append (gk hX) (gl hX) (fo_1_3 (gk hX) h0) x1 M_2 _ _ er_3) kX0_append vX0_append w_1260 (fo_1_3 (gk hX) h0) rfl rfl rfl rfl (Nat.le_of_ble_eq_true rfl) z0 ?_
  cases h
  exact x_iret hX dX1_openBatch_17 rfl
set_option maxRecDepth 100000 in
set_option maxHeartbeats 4000000 in
theorem tj_X1_pickFirstBatch_41_14 {X : Cxt} (hX : Gd X RX1 cX1_pickFirstBatch 4 (some .int) 2) {th : Nat} (h0 : at_ (xG X) th 11 0)  (x1 : Int) (x2 : Int) (x3 : Int) (M : Mem) {Q : State → Prop} (o : (Int × Int × Mem) ⊕ ((Int × Mem) ⊕ (Int × Mem))) (h : j_X1_pickFirstBatch_41_14 th x1 x2 x3 M = some o) (hP : ∀ y, o = .inl y → V X 0 0 Q 14 [some (vr (xG X) th), some (vi x1), some (vi y.1), some (vi y.2.1)] [] y.2.2) (hE : ∀ z, o = .inr (.inl z) → V X 0 0 Q 47 [some (vr (xG X) th), some (vi x1), some (vi z.1), none] [] z.2) (hR : ∀ q, o = .inr (.inr q) → Q = Qn X (some (vi q.1)) q.2) : V X 0 0 Q 41 [some (vr (xG X) th), some (vi x1), some (vi x2), some (vi x3)] [] M := by
  unfold j_X1_pickFirstBatch_41_14 at h
  obtain ⟨x3_2, ex3_2, h⟩ := bnd_of h
  refine x_iinc (ls' := [some (vr (xG X) th), some (vi x1), some (vi x2), some (vi x3_2)]) hX dX1_pickFirstBatch_41 rfl rfl ex3_2 rfl ?_
  refine x_goto (tgt := 14) hX dX1_pickFirstBatch_44 (by decide) ?_
  exact x_weak [true, true, true, true] rfl (hP (x2, x3_2, M) (Option.some.inj h).symm)
set_option maxRecDepth 100000 in
set_option maxHeartbeats 4000000 in
theorem ts_X1_pickFirstBatch_14 {X : Cxt} (hX : Gd X RX1 cX1_pickFirstBatch 4 (some .int) 2) {th : Nat} (h0 : at_ (xG X) th 11 0) (x1 : Int) (x2 : Int) (x3 : Int) (M : Mem) {Q : State → Prop} (o : (Int × Int × Mem) ⊕ ((Int × Mem) ⊕ (Int × Mem))) (h : s_X1_pickFirstBatch_14 th x1 x2 x3 M = some o) (hP : ∀ y, o = .inl y → V X 0 0 Q 14 [some (vr (xG X) th), some (vi x1), some (vi y.1), some (vi y.2.1)] [] y.2.2) (hE : ∀ z, o = .inr (.inl z) → V X 0 0 Q 47 [some (vr (xG X) th), some (vi x1), some (vi z.1), none] [] z.2) (hR : ∀ q, o = .inr (.inr q) → Q = Qn X (some (vi q.1)) q.2) : V X 0 0 Q 14 [some (vr (xG X) th), some (vi x1), some (vi x2), some (vi x3)] [] M := by
  unfold s_X1_pickFirstBatch_14 at h
  refine x_iloadn hX dX1_pickFirstBatch_14 rfl ?_
  refine x_aloadn hX dX1_pickFirstBatch_15 rfl ?_
  refine x_getRj (j := th + 9) hX dX1_pickFirstBatch_16 fl_X1_28 rfl h0 rfl ?_
  refine x_getI hX dX1_pickFirstBatch_19 fl_X1_46 rfl (fo_1_2 (gk hX) h0) ?_
  refine x_icmp_ge (tgt := 47) hX dX1_pickFirstBatch_22 (by decide) rfl rfl (fun hc => ?_) (fun hc => ?_)
  · replace h := (if_pos hc).symm.trans h
    refine x_iloadn hX dX1_pickFirstBatch_25 rfl ?_
    refine x_iloadn hX dX1_pickFirstBatch_26 rfl ?_
    refine x_ishr hX dX1_pickFirstBatch_27 ?_
    refine x_iconst hX dX1_pickFirstBatch_28 ?_
    refine x_iand hX dX1_pickFirstBatch_29 ?_
    refine x_if_eq (tgt := 41) hX dX1_pickFirstBatch_30 (by decide) rfl (fun hc => ?_) (fun hc => ?_)
    · replace h := (if_pos hc).symm.trans h
      exact x_weak [true, true, true, true] rfl (tj_X1_pickFirstBatch_41_14 hX h0 x1 x2 x3 M o h hP hE hR)
    · replace h := (if_neg hc).symm.trans h
      refine x_iloadn hX dX1_pickFirstBatch_33 rfl ?_
      refine x_aloadn hX dX1_pickFirstBatch_34 rfl ?_
      refine x_iloadn hX dX1_pickFirstBatch_35 rfl ?_
      obtain ⟨r_3, M_4, er_3, h⟩ := cl2_of h
      refine x_callVi (t := 1) (As := [vi x3]) (rest := [vi x2]) hX dX1_pickFirstBatch_36 (c_X1_serve (gk hX) (gl hX) h0 x3 M _ _ er_3) kX1_serve vX1_serve w_1545 h0 rfl rfl rfl rfl (Nat.le_of_ble_eq_true rfl) z0 ?_
      refine x_iadd hX dX1_pickFirstBatch_39 ?_
      obtain ⟨x2_5, ex2_5, h⟩ := bnd_of h
      refine x_istoren (ls' := [some (vr (xG X) th), some (vi x1), some (vi x2_5), some (vi x3)]) hX dX1_pickFirstBatch_40 rfl ex2_5 rfl ?_
      exact x_weak [true, true, true, true] rfl (tj_X1_pickFirstBatch_41_14 hX h0 x1 x2_5 x3 M_4 o h hP hE hR)
  · replace h := (if_neg hc).symm.trans h
    exact x_weak [true, true, true, false] rfl (hE (x2, M) (Option.some.inj h).symm)
set_option maxRecDepth 100000 in
set_option maxHeartbeats 4000000 in
theorem c_X1_pickFirstBatch {l : Launch} {G : Gx} (hG : GOK G) (hl : l.stackTraces = false) {th : Nat} (h0 : at_ G th 11 0) (M : Mem) (r : Int) (Mr : Mem) (h : f_X1_pickFirstBatch th M = some (r, Mr)) : Cn l G mX1_pickFirstBatch 2 [vr G th] M (some (vi r)) Mr := by
  refine Cn_of2 (ls := [some (vr G th), none, none, none]) hG hl kX1_pickFirstBatch rfl (Nat.le_of_ble_eq_true rfl) rfl rfl rfl rfl rfl (fun X eG el hX => ?_)
  subst eG; subst el
  unfold f_X1_pickFirstBatch at h
  refine x_aloadn hX dX1_pickFirstBatch_0 rfl ?_
  refine x_getRj (j := th + 16) hX dX1_pickFirstBatch_1 fl_X1_35 rfl h0 rfl ?_
  refine x_getRj (j := th + 16 + 1) hX dX1_pickFirstBatch_4 fl_X1_94 rfl (fo_1_3 (gk hX) h0) rfl ?_
  refine x_iconst hX dX1_pickFirstBatch_7 ?_
  refine x_iald hX dX1_pickFirstBatch_8 (fo_0_1 (gk hX) (fo_1_3 (gk hX) h0)) inc_0_8 ixc_0 ?_
  obtain ⟨x1_1, ex1_1, h⟩ := bnd_of h
  refine x_istoren (ls' := [some (vr (xG X) th), some (vi x1_1), none, none]) hX dX1_pickFirstBatch_9 rfl ex1_1 rfl ?_
  refine x_iconst hX dX1_pickFirstBatch_10 ?_
  refine x_istoren (ls' := [some (vr (xG X) th), some (vi x1_1), some (vi 0), none]) hX dX1_pickFirstBatch_11 rfl rfl rfl ?_
  refine x_iconst hX dX1_pickFirstBatch_12 ?_
  refine x_istoren (ls' := [some (vr (xG X) th), some (vi x1_1), some (vi 0), some (vi 0)]) hX dX1_pickFirstBatch_13 rfl rfl rfl ?_
  refine x_weak (ls' := [some (vr (xG X) th), some (vi x1_1), some (vi 0), some (vi 0)]) [true, true, true, true] rfl ?_
  refine lp_use (x := (0, 0, M)) (P := fun x => V X 0 0 (Qn X (some (vi r)) Mr) 14 [some (vr (xG X) th), some (vi x1_1), some (vi x.1), some (vi x.2.1)] [] x.2.2) (PE := fun z_6 => V X 0 0 (Qn X (some (vi r)) Mr) 47 [some (vr (xG X) th), some (vi x1_1), some (vi z_6.1), none] [] z_6.2) (PR := fun q => (Qn X (some (vi r)) Mr) = Qn X (some (vi q.1)) q.2) h (fun x o hh hP hE hR => ts_X1_pickFirstBatch_14 hX h0 x1_1 x.1 x.2.1 x.2.2 o hh hP hE hR) (fun z_6 h => ?_) (fun q h => ?_)
  · show V X 0 0 (Qn X (some (vi r)) Mr) 47 [some (vr (xG X) th), some (vi x1_1), some (vi z_6.1), none] [] z_6.2
    refine x_aloadn hX dX1_pickFirstBatch_47 rfl ?_
    refine x_getRj (j := th + 9) hX dX1_pickFirstBatch_48 fl_X1_28 rfl h0 rfl ?_
    refine x_iloadn hX dX1_pickFirstBatch_51 rfl ?_
    refine x_iconst hX dX1_pickFirstBatch_52 ?_
    obtain ⟨M_8, er_7, h⟩ := cl1_of h
    refine x_callVv (t := 5) (As := [vi x1_1, vi 2]) (rest := []) hX dX1_pickFirstBatch_53 (c_X5_setStates (gk hX) (gl hX) (fo_1_2 (gk hX) h0) x1_1 2 z_6.2 _ er_7) kX5_setStates vX5_setStates w_1256 (fo_1_2 (gk hX) h0) rfl rfl rfl rfl (Nat.le_of_ble_eq_true rfl) z0 ?_
    refine x_aloadn hX dX1_pickFirstBatch_56 rfl ?_
    refine x_getRj (j := th + 16) hX dX1_pickFirstBatch_57 fl_X1_35 rfl h0 rfl ?_
    refine x_iconst hX dX1_pickFirstBatch_60 ?_
    obtain ⟨M_10, er_9, h⟩ := cl1_of h
    refine x_callVv (t := 0) (As := [vi 0]) (rest := []) hX dX1_pickFirstBatch_61 (c_X0_drop (gk hX) (gl hX) (fo_1_3 (gk hX) h0) 0 M_8 _ er_9) kX0_drop vX0_drop w_1549 (fo_1_3 (gk hX) h0) rfl rfl rfl rfl (Nat.le_of_ble_eq_true rfl) z0 ?_
    refine x_iloadn hX dX1_pickFirstBatch_64 rfl ?_
    cases h
    exact x_iret hX dX1_pickFirstBatch_65 rfl
  · cases h; rfl
set_option maxRecDepth 100000 in
set_option maxHeartbeats 4000000 in
theorem c_X3_build {l : Launch} {G : Gx} (hG : GOK G) (hl : l.stackTraces = false) {th : Nat} (h0 : at_ G th 13 0) (x1 : Int) (x2 : Int) (x3 : Int) (M : Mem) (Mr : Mem) (h : f_X3_build th x1 x2 x3 M = some Mr) : Cn l G mX3_build 2 [vr G th, vi x1, vi x2, vi x3] M none Mr := by
  refine Cn_of2 (ls := [some (vr G th), some (vi x1), some (vi x2), some (vi x3)]) hG hl kX3_build rfl (Nat.le_of_ble_eq_true rfl) rfl rfl rfl rfl rfl (fun X eG el hX => ?_)
  subst eG; subst el
  unfold f_X3_build at h
  refine x_aloadn hX dX3_build_0 rfl ?_
  refine x_iloadn hX dX3_build_1 rfl ?_
  obtain ⟨M_1, eM_1, h⟩ := bnd_of h
  refine x_putI hX dX3_build_2 fp_X3_32 rfl h0 (x_meq eM_1 ?_)
  refine x_aloadn hX dX3_build_5 rfl ?_
  refine x_iloadn hX dX3_build_6 rfl ?_
  obtain ⟨M_2, eM_2, h⟩ := bnd_of h
  refine x_putI hX dX3_build_7 fp_X3_35 rfl h0 (x_meq eM_2 ?_)
  refine x_aloadn hX dX3_build_10 rfl ?_
  refine x_iloadn hX dX3_build_11 rfl ?_
  obtain ⟨M_3, eM_3, h⟩ := bnd_of h
  refine x_putI hX dX3_build_12 fp_X3_38 rfl h0 (x_meq eM_3 ?_)
  refine x_aloadn hX dX3_build_15 rfl ?_
  refine x_iconst hX dX3_build_16 ?_
  refine x_iconst hX dX3_build_17 ?_
  obtain ⟨M_5, er_4, h⟩ := cl1_of h
  refine x_callVv (t := 3) (As := [vi (-1), vi (-1)]) (rest := []) hX dX3_build_18 (c_X3_divide (gk hX) (gl hX) h0 (-1) (-1) M_3 _ er_4) kX3_divide vX3_divide w_360 h0 rfl rfl rfl rfl (Nat.le_of_ble_eq_true rfl) z0 ?_
  cases h
  exact x_vret hX dX3_build_21 rfl
set_option maxRecDepth 100000 in
set_option maxHeartbeats 4000000 in
theorem ts_X5_shortInAll_4 {X : Cxt} (hX : Gd X RX5 cX5_shortInAll 4 (some .int) 2) {th : Nat} (h0 : at_ (xG X) th 15 0) (x1 : Int) (M : Mem) (x2 : Int) (x3 : Int) {Q : State → Prop} (o : (Int × Int) ⊕ ((Int) ⊕ (Int))) (h : s_X5_shortInAll_4 th x1 M x2 x3 = some o) (hP : ∀ y, o = .inl y → V X 0 0 Q 4 [some (vr (xG X) th), some (vi x1), some (vi y.1), some (vi y.2)] [] M) (hE : ∀ z, o = .inr (.inl z) → V X 0 0 Q 29 [none, none, some (vi z), none] [] M) (hR : ∀ q, o = .inr (.inr q) → Q = Qn X (some (vi q)) M) : V X 0 0 Q 4 [some (vr (xG X) th), some (vi x1), some (vi x2), some (vi x3)] [] M := by
  unfold s_X5_shortInAll_4 at h
  refine x_iloadn hX dX5_shortInAll_4 rfl ?_
  refine x_aloadn hX dX5_shortInAll_5 rfl ?_
  refine x_getRj (j := th + 3) hX dX5_shortInAll_6 fl_X5_18 rfl h0 rfl ?_
  refine x_iloadn hX dX5_shortInAll_9 rfl ?_
  obtain ⟨b_1, h⟩ := gi_of h
  refine x_iald hX dX5_shortInAll_10 (fo_5_4 (gk hX) h0) b_1 rfl ?_
  refine x_icmp_ge (tgt := 29) hX dX5_shortInAll_11 (by decide) rfl rfl (fun hc => ?_) (fun hc => ?_)
  · replace h := (if_pos hc).symm.trans h
    refine x_iloadn hX dX5_shortInAll_14 rfl ?_
    refine x_aloadn hX dX5_shortInAll_15 rfl ?_
    refine x_iloadn hX dX5_shortInAll_16 rfl ?_
    refine x_iloadn hX dX5_shortInAll_17 rfl ?_
    obtain ⟨r_2, er_2, h⟩ := cl1_of h
    refine x_callVi (t := 5) (As := [vi x1, vi x3]) (rest := [vi x2]) hX dX5_shortInAll_18 (c_X5_shortIn (gk hX) (gl hX) h0 x1 x3 M _ er_2) kX5_shortIn vX5_shortIn w_759 h0 rfl rfl rfl rfl (Nat.le_of_ble_eq_true rfl) z0 ?_
    refine x_iadd hX dX5_shortInAll_21 ?_
    obtain ⟨x2_4, ex2_4, h⟩ := bnd_of h
    refine x_istoren (ls' := [some (vr (xG X) th), some (vi x1), some (vi x2_4), some (vi x3)]) hX dX5_shortInAll_22 rfl ex2_4 rfl ?_
    obtain ⟨x3_5, ex3_5, h⟩ := bnd_of h
    refine x_iinc (ls' := [some (vr (xG X) th), some (vi x1), some (vi x2_4), some (vi x3_5)]) hX dX5_shortInAll_23 rfl rfl ex3_5 rfl ?_
    refine x_goto (tgt := 4) hX dX5_shortInAll_26 (by decide) ?_
    exact x_weak [true, true, true, true] rfl (hP (x2_4, x3_5) (Option.some.inj h).symm)
  · replace h := (if_neg hc).symm.trans h
    exact x_weak [false, false, true, false] rfl (hE x2 (Option.some.inj h).symm)
set_option maxRecDepth 100000 in
set_option maxHeartbeats 4000000 in
theorem c_X5_shortInAll {l : Launch} {G : Gx} (hG : GOK G) (hl : l.stackTraces = false) {th : Nat} (h0 : at_ G th 15 0) (x1 : Int) (M : Mem) (r : Int) (h : f_X5_shortInAll th x1 M = some r) : Cn l G mX5_shortInAll 2 [vr G th, vi x1] M (some (vi r)) M := by
  refine Cn_of2 (ls := [some (vr G th), some (vi x1), none, none]) hG hl kX5_shortInAll rfl (Nat.le_of_ble_eq_true rfl) rfl rfl rfl rfl rfl (fun X eG el hX => ?_)
  subst eG; subst el
  unfold f_X5_shortInAll at h
  refine x_iconst hX dX5_shortInAll_0 ?_
  refine x_istoren (ls' := [some (vr (xG X) th), some (vi x1), some (vi 0), none]) hX dX5_shortInAll_1 rfl rfl rfl ?_
  refine x_iconst hX dX5_shortInAll_2 ?_
  refine x_istoren (ls' := [some (vr (xG X) th), some (vi x1), some (vi 0), some (vi 0)]) hX dX5_shortInAll_3 rfl rfl rfl ?_
  refine x_weak (ls' := [some (vr (xG X) th), some (vi x1), some (vi 0), some (vi 0)]) [true, true, true, true] rfl ?_
  refine lp_use (x := (0, 0)) (P := fun x => V X 0 0 (Qn X (some (vi r)) M) 4 [some (vr (xG X) th), some (vi x1), some (vi x.1), some (vi x.2)] [] M) (PE := fun z_6 => V X 0 0 (Qn X (some (vi r)) M) 29 [none, none, some (vi z_6), none] [] M) (PR := fun q => (Qn X (some (vi r)) M) = Qn X (some (vi q)) M) h (fun x o hh hP hE hR => ts_X5_shortInAll_4 hX h0 x1 M x.1 x.2 o hh hP hE hR) (fun z_6 h => ?_) (fun q h => ?_)
  · show V X 0 0 (Qn X (some (vi r)) M) 29 [none, none, some (vi z_6), none] [] M
    refine x_iloadn hX dX5_shortInAll_29 rfl ?_
    cases h
    exact x_iret hX dX5_shortInAll_30 rfl
  · cases h; rfl
set_option maxRecDepth 100000 in
set_option maxHeartbeats 4000000 in
theorem ts_X5_pickedOfDone_14 {X : Cxt} (hX : Gd X RX5 cX5_pickedOfDone 4 (some .int) 2) {th : Nat} (h0 : at_ (xG X) th 15 0) (x2 : Int) (M : Mem) (x1 : Int) (x3 : Int) {Q : State → Prop} (o : (Int × Int) ⊕ ((Int) ⊕ (Int))) (h : s_X5_pickedOfDone_14 th x2 M x1 x3 = some o) (hP : ∀ y, o = .inl y → V X 0 0 Q 14 [some (vr (xG X) th), some (vi y.1), some (vi x2), some (vi y.2)] [] M) (hE : ∀ z, o = .inr (.inl z) → V X 0 0 Q 39 [some (vr (xG X) th), some (vi z), some (vi x2), none] [] M) (hR : ∀ q, o = .inr (.inr q) → Q = Qn X (some (vi q)) M) : V X 0 0 Q 14 [some (vr (xG X) th), some (vi x1), some (vi x2), some (vi x3)] [] M := by
  unfold s_X5_pickedOfDone_14 at h
  refine x_iloadn hX dX5_pickedOfDone_14 rfl ?_
  refine x_aloadn hX dX5_pickedOfDone_15 rfl ?_
  refine x_getRj (j := th + 3) hX dX5_pickedOfDone_16 fl_X5_18 rfl h0 rfl ?_
  refine x_iloadn hX dX5_pickedOfDone_19 rfl ?_
  obtain ⟨b_1, h⟩ := gi_of h
  refine x_iald hX dX5_pickedOfDone_20 (fo_5_4 (gk hX) h0) b_1 rfl ?_
  refine x_icmp_ge (tgt := 39) hX dX5_pickedOfDone_21 (by decide) rfl rfl (fun hc => ?_) (fun hc => ?_)
  · replace h := (if_pos hc).symm.trans h
    refine x_iloadn hX dX5_pickedOfDone_24 rfl ?_
    refine x_aloadn hX dX5_pickedOfDone_25 rfl ?_
    refine x_iloadn hX dX5_pickedOfDone_26 rfl ?_
    refine x_iloadn hX dX5_pickedOfDone_27 rfl ?_
    obtain ⟨r_2, er_2, h⟩ := cl1_of h
    refine x_callVi (t := 5) (As := [vi x2, vi x3]) (rest := [vi x1]) hX dX5_pickedOfDone_28 (c_X5_pickedIn (gk hX) (gl hX) h0 x2 x3 M _ er_2) kX5_pickedIn vX5_pickedIn w_747 h0 rfl rfl rfl rfl (Nat.le_of_ble_eq_true rfl) z0 ?_
    refine x_iadd hX dX5_pickedOfDone_31 ?_
    obtain ⟨x1_4, ex1_4, h⟩ := bnd_of h
    refine x_istoren (ls' := [some (vr (xG X) th), some (vi x1_4), some (vi x2), some (vi x3)]) hX dX5_pickedOfDone_32 rfl ex1_4 rfl ?_
    obtain ⟨x3_5, ex3_5, h⟩ := bnd_of h
    refine x_iinc (ls' := [some (vr (xG X) th), some (vi x1_4), some (vi x2), some (vi x3_5)]) hX dX5_pickedOfDone_33 rfl rfl ex3_5 rfl ?_
    refine x_goto (tgt := 14) hX dX5_pickedOfDone_36 (by decide) ?_
    exact x_weak [true, true, true, true] rfl (hP (x1_4, x3_5) (Option.some.inj h).symm)
  · replace h := (if_neg hc).symm.trans h
    exact x_weak [true, true, true, false] rfl (hE x1 (Option.some.inj h).symm)
set_option maxRecDepth 100000 in
set_option maxHeartbeats 4000000 in
theorem ts_X5_pickedOfDone_4 {X : Cxt} (hX : Gd X RX5 cX5_pickedOfDone 4 (some .int) 2) {th : Nat} (h0 : at_ (xG X) th 15 0) (M : Mem) (x1 : Int) (x2 : Int) {Q : State → Prop} (o : (Int × Int) ⊕ ((Int) ⊕ (Int))) (h : s_X5_pickedOfDone_4 th M x1 x2 = some o) (hP : ∀ y, o = .inl y → V X 0 0 Q 4 [some (vr (xG X) th), some (vi y.1), some (vi y.2), none] [] M) (hE : ∀ z, o = .inr (.inl z) → V X 0 0 Q 45 [none, some (vi z), none, none] [] M) (hR : ∀ q, o = .inr (.inr q) → Q = Qn X (some (vi q)) M) : V X 0 0 Q 4 [some (vr (xG X) th), some (vi x1), some (vi x2), none] [] M := by
  unfold s_X5_pickedOfDone_4 at h
  refine x_iloadn hX dX5_pickedOfDone_4 rfl ?_
  refine x_aloadn hX dX5_pickedOfDone_5 rfl ?_
  refine x_getI hX dX5_pickedOfDone_6 fl_X5_30 rfl h0 ?_
  refine x_icmp_ge (tgt := 45) hX dX5_pickedOfDone_9 (by decide) rfl rfl (fun hc => ?_) (fun hc => ?_)
  · replace h := (if_pos hc).symm.trans h
    refine x_iconst hX dX5_pickedOfDone_12 ?_
    refine x_istoren (ls' := [some (vr (xG X) th), some (vi x1), some (vi x2), some (vi 0)]) hX dX5_pickedOfDone_13 rfl rfl rfl ?_
    refine x_weak (ls' := [some (vr (xG X) th), some (vi x1), some (vi x2), some (vi 0)]) [true, true, true, true] rfl ?_
    refine lp_use (x := (x1, 0)) (P := fun x => V X 0 0 Q 14 [some (vr (xG X) th), some (vi x.1), some (vi x2), some (vi x.2)] [] M) (PE := fun z_6 => V X 0 0 Q 39 [some (vr (xG X) th), some (vi z_6), some (vi x2), none] [] M) (PR := fun q => Q = Qn X (some (vi q)) M) h (fun x o hh hP hE hR => ts_X5_pickedOfDone_14 hX h0 x2 M x.1 x.2 o hh hP hE hR) (fun z_6 h => ?_) (fun q h => ?_)
    · show V X 0 0 Q 39 [some (vr (xG X) th), some (vi z_6), some (vi x2), none] [] M
      obtain ⟨x2_7, ex2_7, h⟩ := bnd_of h
      refine x_iinc (ls' := [some (vr (xG X) th), some (vi z_6), some (vi x2_7), none]) hX dX5_pickedOfDone_39 rfl rfl ex2_7 rfl ?_
      refine x_goto (tgt := 4) hX dX5_pickedOfDone_42 (by decide) ?_
      exact x_weak [true, true, true, false] rfl (hP (z_6, x2_7) (Option.some.inj h).symm)
    · exact hR q (Option.some.inj h).symm
  · replace h := (if_neg hc).symm.trans h
    exact x_weak [false, true, false, false] rfl (hE x1 (Option.some.inj h).symm)
set_option maxRecDepth 100000 in
set_option maxHeartbeats 4000000 in
theorem c_X5_pickedOfDone {l : Launch} {G : Gx} (hG : GOK G) (hl : l.stackTraces = false) {th : Nat} (h0 : at_ G th 15 0) (M : Mem) (r : Int) (h : f_X5_pickedOfDone th M = some r) : Cn l G mX5_pickedOfDone 2 [vr G th] M (some (vi r)) M := by
  refine Cn_of2 (ls := [some (vr G th), none, none, none]) hG hl kX5_pickedOfDone rfl (Nat.le_of_ble_eq_true rfl) rfl rfl rfl rfl rfl (fun X eG el hX => ?_)
  subst eG; subst el
  unfold f_X5_pickedOfDone at h
  refine x_iconst hX dX5_pickedOfDone_0 ?_
  refine x_istoren (ls' := [some (vr (xG X) th), some (vi 0), none, none]) hX dX5_pickedOfDone_1 rfl rfl rfl ?_
  refine x_iconst hX dX5_pickedOfDone_2 ?_
  refine x_istoren (ls' := [some (vr (xG X) th), some (vi 0), some (vi 0), none]) hX dX5_pickedOfDone_3 rfl rfl rfl ?_
  refine x_weak (ls' := [some (vr (xG X) th), some (vi 0), some (vi 0), none]) [true, true, true, false] rfl ?_
  refine lp_use (x := (0, 0)) (P := fun x => V X 0 0 (Qn X (some (vi r)) M) 4 [some (vr (xG X) th), some (vi x.1), some (vi x.2), none] [] M) (PE := fun z_8 => V X 0 0 (Qn X (some (vi r)) M) 45 [none, some (vi z_8), none, none] [] M) (PR := fun q => (Qn X (some (vi r)) M) = Qn X (some (vi q)) M) h (fun x o hh hP hE hR => ts_X5_pickedOfDone_4 hX h0 M x.1 x.2 o hh hP hE hR) (fun z_8 h => ?_) (fun q h => ?_)
  · show V X 0 0 (Qn X (some (vi r)) M) 45 [none, some (vi z_8), none, none] [] M
    refine x_iloadn hX dX5_pickedOfDone_45 rfl ?_
    cases h
    exact x_iret hX dX5_pickedOfDone_46 rfl
  · cases h; rfl
set_option maxRecDepth 100000 in
set_option maxHeartbeats 4000000 in
theorem tj_X5_repeatShort_54_9 {X : Cxt} (hX : Gd X RX5 cX5_repeatShort 6 (some .int) 2) {th : Nat} (h0 : at_ (xG X) th 15 0)  (x1 : Int) (x3 : Int) (x4 : Int) (M : Mem) {Q : State → Prop} (o : (Int × Mem) ⊕ ((Mem) ⊕ (Int × Mem))) (h : j_X5_repeatShort_54_9 th x1 x3 x4 M = some o) (hP : ∀ y, o = .inl y → V X 0 0 Q 9 [some (vr (xG X) th), some (vi x1), none, some (vi x3), some (vi y.1), none] [] y.2) (hE : ∀ z, o = .inr (.inl z) → V X 0 0 Q 60 [some (vr (xG X) th), some (vi x1), none, some (vi x3), none, none] [] z) (hR : ∀ q, o = .inr (.inr q) → Q = Qn X (some (vi q.1)) q.2) : V X 0 0 Q 54 [some (vr (xG X) th), some (vi x1), none, some (vi x3), some (vi x4), none] [] M := by
  unfold j_X5_repeatShort_54_9 at h
  obtain ⟨x4_9, ex4_9, h⟩ := bnd_of h
  refine x_iinc (ls' := [some (vr (xG X) th), some (vi x1), none, some (vi x3), some (vi x4_9), none]) hX dX5_repeatShort_54 rfl rfl ex4_9 rfl ?_
  refine x_goto (tgt := 9) hX dX5_repeatShort_57 (by decide) ?_
  exact x_weak [true, true, false, true, true, false] rfl (hP (x4_9, M) (Option.some.inj h).symm)
set_option maxRecDepth 100000 in
set_option maxHeartbeats 4000000 in
theorem ts_X5_repeatShort_9 {X : Cxt} (hX : Gd X RX5 cX5_repeatShort 6 (some .int) 2) {th : Nat} (h0 : at_ (xG X) th 15 0) (x1 : Int) (x3 : Int) (x4 : Int) (M : Mem) {Q : State → Prop} (o : (Int × Mem) ⊕ ((Mem) ⊕ (Int × Mem))) (h : s_X5_repeatShort_9 th x1 x3 x4 M = some o) (hP : ∀ y, o = .inl y → V X 0 0 Q 9 [some (vr (xG X) th), some (vi x1), none, some (vi x3), some (vi y.1), none] [] y.2) (hE : ∀ z, o = .inr (.inl z) → V X 0 0 Q 60 [some (vr (xG X) th), some (vi x1), none, some (vi x3), none, none] [] z) (hR : ∀ q, o = .inr (.inr q) → Q = Qn X (some (vi q.1)) q.2) : V X 0 0 Q 9 [some (vr (xG X) th), some (vi x1), none, some (vi x3), some (vi x4), none] [] M := by
  unfold s_X5_repeatShort_9 at h
  refine x_iload hX dX5_repeatShort_9 rfl ?_
  refine x_aloadn hX dX5_repeatShort_11 rfl ?_
  refine x_getRj (j := th + 3) hX dX5_repeatShort_12 fl_X5_18 rfl h0 rfl ?_
  refine x_iloadn hX dX5_repeatShort_15 rfl ?_
  obtain ⟨b_3, h⟩ := gi_of h
  refine x_iald hX dX5_repeatShort_16 (fo_5_4 (gk hX) h0) b_3 rfl ?_
  refine x_icmp_ge (tgt := 60) hX dX5_repeatShort_17 (by decide) rfl rfl (fun hc => ?_) (fun hc => ?_)
  · replace h := (if_pos hc).symm.trans h
    refine x_aloadn hX dX5_repeatShort_20 rfl ?_
    refine x_iloadn hX dX5_repeatShort_21 rfl ?_
    refine x_iload hX dX5_repeatShort_22 rfl ?_
    obtain ⟨r_4, er_4, h⟩ := cl1_of h
    refine x_callVi (t := 5) (As := [vi x1, vi x4]) (rest := []) hX dX5_repeatShort_24 (c_X5_shortIn (gk hX) (gl hX) h0 x1 x4 M _ er_4) kX5_shortIn vX5_shortIn w_759 h0 rfl rfl rfl rfl (Nat.le_of_ble_eq_true rfl) z0 ?_
    refine x_istore (ls' := [some (vr (xG X) th), some (vi x1), none, some (vi x3), some (vi x4), some (vi r_4)]) hX dX5_repeatShort_27 rfl rfl rfl ?_
    refine x_iload hX dX5_repeatShort_29 rfl ?_
    refine x_if_le (tgt := 54) hX dX5_repeatShort_31 (by decide) rfl (fun hc => ?_) (fun hc => ?_)
    · replace h := (if_pos hc).symm.trans h
      refine x_aloadn hX dX5_repeatShort_34 rfl ?_
      refine x_iloadn hX dX5_repeatShort_35 rfl ?_
      refine x_aloadn hX dX5_repeatShort_36 rfl ?_
      refine x_getRj (j := th + 4) hX dX5_repeatShort_37 fl_X5_21 rfl h0 rfl ?_
      refine x_iloadn hX dX5_repeatShort_40 rfl ?_
      refine x_bipush hX dX5_repeatShort_41 bp_6 ?_
      refine x_imul hX dX5_repeatShort_43 ?_
      refine x_iload hX dX5_repeatShort_44 rfl ?_
      refine x_iadd hX dX5_repeatShort_46 ?_
      obtain ⟨b_6, h⟩ := gi_of h
      refine x_iald hX dX5_repeatShort_47 (fo_5_5 (gk hX) h0) b_6 rfl ?_
      refine x_iload hX dX5_repeatShort_48 rfl ?_
      obtain ⟨r_7, M_8, er_7, h⟩ := cl2_of h
      refine x_callVi (t := 5) (As := [vi x3, vi (M (th + 4) (ix ((x1 * 6) + x4))), vi r_4]) (rest := []) hX dX5_repeatShort_50 (c_X5_appendLine (gk hX) (gl hX) h0 x3 (M (th + 4) (ix ((x1 * 6) + x4))) r_4 M _ _ er_7) kX5_appendLine vX5_appendLine w_1587 h0 rfl rfl rfl rfl (Nat.le_of_ble_eq_true rfl) z0 ?_
      refine x_pop hX dX5_repeatShort_53 rfl ?_
      exact x_weak [true, true, false, true, true, false] rfl (tj_X5_repeatShort_54_9 hX h0 x1 x3 x4 M_8 o h hP hE hR)
    · replace h := (if_neg hc).symm.trans h
      exact x_weak [true, true, false, true, true, false] rfl (tj_X5_repeatShort_54_9 hX h0 x1 x3 x4 M o h hP hE hR)
  · replace h := (if_neg hc).symm.trans h
    exact x_weak [true, true, false, true, false, false] rfl (hE M (Option.some.inj h).symm)
set_option maxRecDepth 100000 in
set_option maxHeartbeats 4000000 in
theorem c_X5_repeatShort {l : Launch} {G : Gx} (hG : GOK G) (hl : l.stackTraces = false) {th : Nat} (h0 : at_ G th 15 0) (x1 : Int) (x2 : Int) (M : Mem) (r : Int) (Mr : Mem) (h : f_X5_repeatShort th x1 x2 M = some (r, Mr)) : Cn l G mX5_repeatShort 2 [vr G th, vi x1, vi x2] M (some (vi r)) Mr := by
  refine Cn_of2 (ls := [some (vr G th), some (vi x1), some (vi x2), none, none, none]) hG hl kX5_repeatShort rfl (Nat.le_of_ble_eq_true rfl) rfl rfl rfl rfl rfl (fun X eG el hX => ?_)
  subst eG; subst el
  unfold f_X5_repeatShort at h
  refine x_aloadn hX dX5_repeatShort_0 rfl ?_
  refine x_iloadn hX dX5_repeatShort_1 rfl ?_
  obtain ⟨r_1, M_2, er_1, h⟩ := cl2_of h
  refine x_callVi (t := 5) (As := [vi x2]) (rest := []) hX dX5_repeatShort_2 (c_X5_append (gk hX) (gl hX) h0 x2 M _ _ er_1) kX5_append vX5_append w_1586 h0 rfl rfl rfl rfl (Nat.le_of_ble_eq_true rfl) z0 ?_
  refine x_istoren (ls' := [some (vr (xG X) th), some (vi x1), some (vi x2), some (vi r_1), none, none]) hX dX5_repeatShort_5 rfl rfl rfl ?_
  refine x_iconst hX dX5_repeatShort_6 ?_
  refine x_istore (ls' := [some (vr (xG X) th), some (vi x1), some (vi x2), some (vi r_1), some (vi 0), none]) hX dX5_repeatShort_7 rfl rfl rfl ?_
  refine x_weak (ls' := [some (vr (xG X) th), some (vi x1), none, some (vi r_1), some (vi 0), none]) [true, true, false, true, true, false] rfl ?_
  refine lp_use (x := (0, M_2)) (P := fun x => V X 0 0 (Qn X (some (vi r)) Mr) 9 [some (vr (xG X) th), some (vi x1), none, some (vi r_1), some (vi x.1), none] [] x.2) (PE := fun z_10 => V X 0 0 (Qn X (some (vi r)) Mr) 60 [some (vr (xG X) th), some (vi x1), none, some (vi r_1), none, none] [] z_10) (PR := fun q => (Qn X (some (vi r)) Mr) = Qn X (some (vi q.1)) q.2) h (fun x o hh hP hE hR => ts_X5_repeatShort_9 hX h0 x1 r_1 x.1 x.2 o hh hP hE hR) (fun z_10 h => ?_) (fun q h => ?_)
  · show V X 0 0 (Qn X (some (vi r)) Mr) 60 [some (vr (xG X) th), some (vi x1), none, some (vi r_1), none, none] [] z_10
    refine x_aloadn hX dX5_repeatShort_60 rfl ?_
    refine x_dup hX dX5_repeatShort_61 rfl ?_
    refine x_getI hX dX5_repeatShort_62 fl_X5_45 rfl h0 ?_
    refine x_iconst hX dX5_repeatShort_65 ?_
    refine x_iloadn hX dX5_repeatShort_66 rfl ?_
    refine x_ishl hX dX5_repeatShort_67 ?_
    refine x_ior hX dX5_repeatShort_68 ?_
    obtain ⟨M_11, eM_11, h⟩ := bnd_of h
    refine x_putI hX dX5_repeatShort_69 fp_X5_45 rfl h0 (x_meq eM_11 ?_)
    refine x_iloadn hX dX5_repeatShort_72 rfl ?_
    cases h
    exact x_iret hX dX5_repeatShort_73 rfl
  · cases h; rfl
