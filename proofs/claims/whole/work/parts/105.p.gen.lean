-- written by wip/gen/emit.py: X11_setLayout, X11_addItem, X11_stock, X11_restock, X11_addLine, X11_orderState, X11_lineCount, X11_due, X11_setDue, X11_orderWeight, X11_orderAisles, X11_addBatch, X11_dissolve, X11_batchOrders, X11_batchWeight, X11_zoneOf, X11_stopCount, X11_pickBatch, X11_totalPicked, X11_needLine, X0_takeOut, X0_move, X3_reset, X5_shortOfDone, X5_canBeRepeated
set_option maxRecDepth 100000 in
set_option maxHeartbeats 4000000 in
theorem c_X11_setLayout {l : Launch} {G : Gx} (hG : GOK G) (hl : l.stackTraces = false) (hs : SOK G)  (x1 : Int) (x2 : Int) (x3 : Int) (M : Mem) (r : Nat ⊕ Int) (Mr : Mem) (h : f_X11_setLayout x1 x2 x3 M = some (r, Mr)) : Cx l G mX11_setLayout 3 4 24 [vr G 0, vi x1, vi x2, vi x3] M (ovi r) Mr := by
  refine Cx_of2 (ls := [some (vr G 0), some (vi x1), some (vi x2), some (vi x3)]) hG hl kX11_setLayout rfl (Nat.le_of_ble_eq_true rfl) rfl rfl rfl rfl rfl (fun X eG el hX hN => ?_)
  subst eG; subst el
  unfold f_X11_setLayout at h
  refine x_iloadn hX dX11_setLayout_0 rfl ?_
  refine x_iconst hX dX11_setLayout_1 ?_
  refine x_bipush hX dX11_setLayout_2 bp_6 ?_
  rcases cx1_of h with ⟨e_3, ee_3, h⟩ | ⟨r_1, er_1, h⟩
  · exact x_rs2 (f := ovi) h (x_xSt (As := [vi x1, vi 1, vi 6]) (rest := []) hX hN dX11_setLayout_4 (c_X11_needArgument (gk hX) (gl hX) x1 1 6 M _ ee_3) kX11_needArgument sX11_needArgument w_965 rfl rfl rfl (Nat.le_of_ble_eq_true rfl) (Nat.le_of_ble_eq_true rfl) (Nat.le_of_ble_eq_true rfl))
  · refine x_xSr (As := [vi x1, vi 1, vi 6]) (rest := []) hX dX11_setLayout_4 (c_X11_needArgument (gk hX) (gl hX) x1 1 6 M _ er_1) kX11_needArgument sX11_needArgument w_965 rfl rfl rfl (Nat.le_of_ble_eq_true rfl) (kf hN (a := 1) (b := 6) (Nat.le_of_ble_eq_true rfl) (Nat.le_of_ble_eq_true rfl)) ?_
    show V X 1 6 _ 7 [some (vr (xG X) 0), some (vi x1), some (vi x2), some (vi x3)] [] M
    refine x_iloadn hX dX11_setLayout_7 rfl ?_
    refine x_iconst hX dX11_setLayout_8 ?_
    refine x_bipush hX dX11_setLayout_9 bp_20 ?_
    rcases cx1_of h with ⟨e_6, ee_6, h⟩ | ⟨r_4, er_4, h⟩
    · exact x_rs2 (f := ovi) h (x_xSt (As := [vi x2, vi 2, vi 20]) (rest := []) hX hN dX11_setLayout_11 (c_X11_needArgument (gk hX) (gl hX) x2 2 20 M _ ee_6) kX11_needArgument sX11_needArgument w_965 rfl rfl rfl (Nat.le_of_ble_eq_true rfl) (Nat.le_of_ble_eq_true rfl) (Nat.le_of_ble_eq_true rfl))
    · refine x_xSr (As := [vi x2, vi 2, vi 20]) (rest := []) hX dX11_setLayout_11 (c_X11_needArgument (gk hX) (gl hX) x2 2 20 M _ er_4) kX11_needArgument sX11_needArgument w_965 rfl rfl rfl (Nat.le_of_ble_eq_true rfl) (kf hN (a := 2) (b := 12) (Nat.le_of_ble_eq_true rfl) (Nat.le_of_ble_eq_true rfl)) ?_
      show V X 2 12 _ 14 [some (vr (xG X) 0), some (vi x1), some (vi x2), some (vi x3)] [] M
      refine x_iloadn hX dX11_setLayout_14 rfl ?_
      refine x_iconst hX dX11_setLayout_15 ?_
      refine x_bipush hX dX11_setLayout_16 bp_9 ?_
      rcases cx1_of h with ⟨e_9, ee_9, h⟩ | ⟨r_7, er_7, h⟩
      · exact x_rs2 (f := ovi) h (x_xSt (As := [vi x3, vi 1, vi 9]) (rest := []) hX hN dX11_setLayout_18 (c_X11_needArgument (gk hX) (gl hX) x3 1 9 M _ ee_9) kX11_needArgument sX11_needArgument w_965 rfl rfl rfl (Nat.le_of_ble_eq_true rfl) (Nat.le_of_ble_eq_true rfl) (Nat.le_of_ble_eq_true rfl))
      · refine x_xSr (As := [vi x3, vi 1, vi 9]) (rest := []) hX dX11_setLayout_18 (c_X11_needArgument (gk hX) (gl hX) x3 1 9 M _ er_7) kX11_needArgument sX11_needArgument w_965 rfl rfl rfl (Nat.le_of_ble_eq_true rfl) (kf hN (a := 3) (b := 18) (Nat.le_of_ble_eq_true rfl) (Nat.le_of_ble_eq_true rfl)) ?_
        show V X 3 18 _ 21 [some (vr (xG X) 0), some (vi x1), some (vi x2), some (vi x3)] [] M
        refine x_aloadn hX dX11_setLayout_21 rfl ?_
        refine x_getRj (j := 1) hX dX11_setLayout_22 fl_X11_10 rfl (st0 hs) rfl ?_
        refine x_getRj (j := 5) hX dX11_setLayout_25 fl_X11_62 rfl (st1 hs) rfl ?_
        refine x_getI hX dX11_setLayout_28 fl_X11_66 rfl (st5 hs) ?_
        refine x_if_le (tgt := 44) hX dX11_setLayout_31 (by decide) rfl (fun hc => ?_) (fun hc => ?_)
        · replace h := (if_pos hc).symm.trans h
          cases h
          exact x_thrS (x := 1) (k' := 13) hX hN dX11_setLayout_34 dX11_setLayout_37 dX11_setLayout_38 dX11_setLayout_40 dX11_setLayout_43 thr_72_76 rfl (Nat.le_of_ble_eq_true rfl) (Nat.le_of_ble_eq_true rfl) (Nat.le_of_ble_eq_true rfl)
        · replace h := (if_neg hc).symm.trans h
          refine x_aloadn hX dX11_setLayout_44 rfl ?_
          refine x_getRj (j := 1) hX dX11_setLayout_45 fl_X11_10 rfl (st0 hs) rfl ?_
          refine x_getRj (j := 2) hX dX11_setLayout_48 fl_X11_79 rfl (st1 hs) rfl ?_
          refine x_iloadn hX dX11_setLayout_51 rfl ?_
          refine x_iloadn hX dX11_setLayout_52 rfl ?_
          refine x_iloadn hX dX11_setLayout_53 rfl ?_
          obtain ⟨M_11, er_10, h⟩ := cl1_of h
          refine x_callVv (t := 3) (As := [vi x1, vi x2, vi x3]) (rest := []) hX dX11_setLayout_54 (c_X3_build (gk hX) (gl hX) (st2 hs) x1 x2 x3 M _ er_10) kX3_build vX3_build w_1051 (st2 hs) rfl rfl rfl rfl (Nat.le_of_ble_eq_true rfl) (kf hN (a := 3) (b := 18) (Nat.le_of_ble_eq_true rfl) (Nat.le_of_ble_eq_true rfl)) ?_
          refine x_iloadn hX dX11_setLayout_57 rfl ?_
          refine x_iloadn hX dX11_setLayout_58 rfl ?_
          refine x_imul hX dX11_setLayout_59 ?_
          cases h
          exact x_iretX hX dX11_setLayout_60 (Nat.le_of_ble_eq_true rfl) (Nat.le_of_ble_eq_true rfl)
set_option maxRecDepth 100000 in
set_option maxHeartbeats 4000000 in
theorem c_X11_addItem {l : Launch} {G : Gx} (hG : GOK G) (hl : l.stackTraces = false) (hs : SOK G)  (x1 : Int) (x2 : Int) (x3 : Int) (x4 : Int) (M : Mem) (r : Nat ⊕ Int) (Mr : Mem) (h : f_X11_addItem x1 x2 x3 x4 M = some (r, Mr)) : Cx l G mX11_addItem 3 5 30 [vr G 0, vi x1, vi x2, vi x3, vi x4] M (ovi r) Mr := by
  refine Cx_of2 (ls := [some (vr G 0), some (vi x1), some (vi x2), some (vi x3), some (vi x4)]) hG hl kX11_addItem rfl (Nat.le_of_ble_eq_true rfl) rfl rfl rfl rfl rfl (fun X eG el hX hN => ?_)
  subst eG; subst el
  unfold f_X11_addItem at h
  refine x_aloadn hX dX11_addItem_0 rfl ?_
  refine x_iloadn hX dX11_addItem_1 rfl ?_
  rcases cx1_of h with ⟨e_3, ee_3, h⟩ | ⟨r_1, er_1, h⟩
  · exact x_rs2 (f := ovi) h (x_xVt (t := 10) (As := [vi x1]) (rest := []) hX hN dX11_addItem_2 (c_X11_needAisle (gk hX) (gl hX) hs x1 M _ ee_3) kX11_needAisle vX11_needAisle w_1060 (st0 hs) rfl rfl rfl rfl (Nat.le_of_ble_eq_true rfl) (Nat.le_of_ble_eq_true rfl) (Nat.le_of_ble_eq_true rfl))
  · refine x_xVr (t := 10) (As := [vi x1]) (rest := []) hX dX11_addItem_2 (c_X11_needAisle (gk hX) (gl hX) hs x1 M _ er_1) kX11_needAisle vX11_needAisle w_1060 (st0 hs) rfl rfl rfl rfl (Nat.le_of_ble_eq_true rfl) (kf hN (a := 1) (b := 6) (Nat.le_of_ble_eq_true rfl) (Nat.le_of_ble_eq_true rfl)) ?_
    show V X 1 6 _ 5 [some (vr (xG X) 0), some (vi x1), some (vi x2), some (vi x3), some (vi x4)] [] M
    refine x_iloadn hX dX11_addItem_5 rfl ?_
    refine x_iconst hX dX11_addItem_6 ?_
    refine x_isub hX dX11_addItem_7 ?_
    refine x_aloadn hX dX11_addItem_8 rfl ?_
    refine x_getRj (j := 1) hX dX11_addItem_9 fl_X11_10 rfl (st0 hs) rfl ?_
    refine x_getRj (j := 2) hX dX11_addItem_12 fl_X11_79 rfl (st1 hs) rfl ?_
    refine x_getI hX dX11_addItem_15 fl_X11_95 rfl (st2 hs) ?_
    rcases cx1_of h with ⟨e_6, ee_6, h⟩ | ⟨r_4, er_4, h⟩
    · exact x_rs2 (f := ovi) h (x_xSt (As := [vi (x2 - 1), vi (M 2 1)]) (rest := []) hX hN dX11_addItem_18 (c_X11_needIndex (gk hX) (gl hX) (x2 - 1) (M 2 1) M _ ee_6) kX11_needIndex sX11_needIndex w_1064 rfl rfl rfl (Nat.le_of_ble_eq_true rfl) (Nat.le_of_ble_eq_true rfl) (Nat.le_of_ble_eq_true rfl))
    · refine x_xSr (As := [vi (x2 - 1), vi (M 2 1)]) (rest := []) hX dX11_addItem_18 (c_X11_needIndex (gk hX) (gl hX) (x2 - 1) (M 2 1) M _ er_4) kX11_needIndex sX11_needIndex w_1064 rfl rfl rfl (Nat.le_of_ble_eq_true rfl) (kf hN (a := 2) (b := 12) (Nat.le_of_ble_eq_true rfl) (Nat.le_of_ble_eq_true rfl)) ?_
      show V X 2 12 _ 21 [some (vr (xG X) 0), some (vi x1), some (vi x2), some (vi x3), some (vi x4)] [] M
      refine x_iloadn hX dX11_addItem_21 rfl ?_
      refine x_iconst hX dX11_addItem_22 ?_
      refine x_bipush hX dX11_addItem_23 bp_50 ?_
      rcases cx1_of h with ⟨e_9, ee_9, h⟩ | ⟨r_7, er_7, h⟩
      · exact x_rs2 (f := ovi) h (x_xSt (As := [vi x3, vi 1, vi 50]) (rest := []) hX hN dX11_addItem_25 (c_X11_needArgument (gk hX) (gl hX) x3 1 50 M _ ee_9) kX11_needArgument sX11_needArgument w_965 rfl rfl rfl (Nat.le_of_ble_eq_true rfl) (Nat.le_of_ble_eq_true rfl) (Nat.le_of_ble_eq_true rfl))
      · refine x_xSr (As := [vi x3, vi 1, vi 50]) (rest := []) hX dX11_addItem_25 (c_X11_needArgument (gk hX) (gl hX) x3 1 50 M _ er_7) kX11_needArgument sX11_needArgument w_965 rfl rfl rfl (Nat.le_of_ble_eq_true rfl) (kf hN (a := 3) (b := 18) (Nat.le_of_ble_eq_true rfl) (Nat.le_of_ble_eq_true rfl)) ?_
        show V X 3 18 _ 28 [some (vr (xG X) 0), some (vi x1), some (vi x2), some (vi x3), some (vi x4)] [] M
        refine x_iload hX dX11_addItem_28 rfl ?_
        refine x_iconst hX dX11_addItem_30 ?_
        refine x_sipush hX dX11_addItem_31 sp_999 ?_
        rcases cx1_of h with ⟨e_12, ee_12, h⟩ | ⟨r_10, er_10, h⟩
        · exact x_rs2 (f := ovi) h (x_xSt (As := [vi x4, vi 0, vi 999]) (rest := []) hX hN dX11_addItem_34 (c_X11_needArgument (gk hX) (gl hX) x4 0 999 M _ ee_12) kX11_needArgument sX11_needArgument w_965 rfl rfl rfl (Nat.le_of_ble_eq_true rfl) (Nat.le_of_ble_eq_true rfl) (Nat.le_of_ble_eq_true rfl))
        · refine x_xSr (As := [vi x4, vi 0, vi 999]) (rest := []) hX dX11_addItem_34 (c_X11_needArgument (gk hX) (gl hX) x4 0 999 M _ er_10) kX11_needArgument sX11_needArgument w_965 rfl rfl rfl (Nat.le_of_ble_eq_true rfl) (kf hN (a := 4) (b := 24) (Nat.le_of_ble_eq_true rfl) (Nat.le_of_ble_eq_true rfl)) ?_
          show V X 4 24 _ 37 [some (vr (xG X) 0), some (vi x1), some (vi x2), some (vi x3), some (vi x4)] [] M
          refine x_aloadn hX dX11_addItem_37 rfl ?_
          refine x_getRj (j := 1) hX dX11_addItem_38 fl_X11_10 rfl (st0 hs) rfl ?_
          refine x_getRj (j := 5) hX dX11_addItem_41 fl_X11_62 rfl (st1 hs) rfl ?_
          refine x_getI hX dX11_addItem_44 fl_X11_66 rfl (st5 hs) ?_
          refine x_bipush hX dX11_addItem_47 bp_24 ?_
          refine x_icmp_lt (tgt := 62) hX dX11_addItem_49 (by decide) rfl cw_24 (fun hc => ?_) (fun hc => ?_)
          · replace h := (if_pos hc).symm.trans h
            refine x_aloadn hX dX11_addItem_62 rfl ?_
            refine x_getRj (j := 1) hX dX11_addItem_63 fl_X11_10 rfl (st0 hs) rfl ?_
            refine x_getRj (j := 5) hX dX11_addItem_66 fl_X11_62 rfl (st1 hs) rfl ?_
            refine x_iloadn hX dX11_addItem_69 rfl ?_
            refine x_iloadn hX dX11_addItem_70 rfl ?_
            refine x_iloadn hX dX11_addItem_71 rfl ?_
            refine x_iload hX dX11_addItem_72 rfl ?_
            obtain ⟨r_13, M_14, er_13, h⟩ := cl2_of h
            refine x_callVi (t := 2) (As := [vi x1, vi x2, vi x3, vi x4]) (rest := []) hX dX11_addItem_74 (c_X2_append (gk hX) (gl hX) (st5 hs) x1 x2 x3 x4 M _ _ er_13) kX2_append vX2_append w_1084 (st5 hs) rfl rfl rfl rfl (Nat.le_of_ble_eq_true rfl) (kf hN (a := 4) (b := 24) (Nat.le_of_ble_eq_true rfl) (Nat.le_of_ble_eq_true rfl)) ?_
            cases h
            exact x_iretX hX dX11_addItem_77 (Nat.le_of_ble_eq_true rfl) (Nat.le_of_ble_eq_true rfl)
          · replace h := (if_neg hc).symm.trans h
            cases h
            exact x_thrS (x := 1) (k' := 15) hX hN dX11_addItem_52 dX11_addItem_55 dX11_addItem_56 dX11_addItem_58 dX11_addItem_61 thr_72_76 rfl (Nat.le_of_ble_eq_true rfl) (Nat.le_of_ble_eq_true rfl) (Nat.le_of_ble_eq_true rfl)
set_option maxRecDepth 100000 in
set_option maxHeartbeats 4000000 in
theorem c_X11_stock {l : Launch} {G : Gx} (hG : GOK G) (hl : l.stackTraces = false) (hs : SOK G)  (x1 : Int) (M : Mem) (r : Nat ⊕ Int) (h : f_X11_stock x1 M = some r) : Cx l G mX11_stock 3 1 6 [vr G 0, vi x1] M (ovi r) M := by
  refine Cx_of2 (ls := [some (vr G 0), some (vi x1)]) hG hl kX11_stock rfl (Nat.le_of_ble_eq_true rfl) rfl rfl rfl rfl rfl (fun X eG el hX hN => ?_)
  subst eG; subst el
  unfold f_X11_stock at h
  refine x_aloadn hX dX11_stock_0 rfl ?_
  refine x_iloadn hX dX11_stock_1 rfl ?_
  rcases cx1_of h with ⟨e_3, ee_3, h⟩ | ⟨r_1, er_1, h⟩
  · exact x_rs1 (f := ovi) h (x_xVt (t := 10) (As := [vi x1]) (rest := []) hX hN dX11_stock_2 (c_X11_needItem (gk hX) (gl hX) hs x1 M _ ee_3) kX11_needItem vX11_needItem w_1092 (st0 hs) rfl rfl rfl rfl (Nat.le_of_ble_eq_true rfl) (Nat.le_of_ble_eq_true rfl) (Nat.le_of_ble_eq_true rfl))
  · refine x_xVr (t := 10) (As := [vi x1]) (rest := []) hX dX11_stock_2 (c_X11_needItem (gk hX) (gl hX) hs x1 M _ er_1) kX11_needItem vX11_needItem w_1092 (st0 hs) rfl rfl rfl rfl (Nat.le_of_ble_eq_true rfl) (kf hN (a := 1) (b := 6) (Nat.le_of_ble_eq_true rfl) (Nat.le_of_ble_eq_true rfl)) ?_
    show V X 1 6 _ 5 [some (vr (xG X) 0), some (vi x1)] [] M
    refine x_aloadn hX dX11_stock_5 rfl ?_
    refine x_getRj (j := 1) hX dX11_stock_6 fl_X11_10 rfl (st0 hs) rfl ?_
    refine x_getRj (j := 5) hX dX11_stock_9 fl_X11_62 rfl (st1 hs) rfl ?_
    refine x_getRj (j := 9) hX dX11_stock_12 fl_X11_111 rfl (st5 hs) rfl ?_
    refine x_iloadn hX dX11_stock_15 rfl ?_
    obtain ⟨b_4, h⟩ := gi_of h
    refine x_iald hX dX11_stock_16 (st9 hs) b_4 rfl ?_
    cases h
    exact x_iretX hX dX11_stock_17 (Nat.le_of_ble_eq_true rfl) (Nat.le_of_ble_eq_true rfl)
set_option maxRecDepth 100000 in
set_option maxHeartbeats 4000000 in
theorem c_X11_restock {l : Launch} {G : Gx} (hG : GOK G) (hl : l.stackTraces = false) (hs : SOK G)  (x1 : Int) (x2 : Int) (M : Mem) (r : Nat ⊕ Int) (Mr : Mem) (h : f_X11_restock x1 x2 M = some (r, Mr)) : Cx l G mX11_restock 3 2 12 [vr G 0, vi x1, vi x2] M (ovi r) Mr := by
  refine Cx_of2 (ls := [some (vr G 0), some (vi x1), some (vi x2)]) hG hl kX11_restock rfl (Nat.le_of_ble_eq_true rfl) rfl rfl rfl rfl rfl (fun X eG el hX hN => ?_)
  subst eG; subst el
  unfold f_X11_restock at h
  refine x_aloadn hX dX11_restock_0 rfl ?_
  refine x_iloadn hX dX11_restock_1 rfl ?_
  rcases cx1_of h with ⟨e_3, ee_3, h⟩ | ⟨r_1, er_1, h⟩
  · exact x_rs2 (f := ovi) h (x_xVt (t := 10) (As := [vi x1]) (rest := []) hX hN dX11_restock_2 (c_X11_needItem (gk hX) (gl hX) hs x1 M _ ee_3) kX11_needItem vX11_needItem w_1092 (st0 hs) rfl rfl rfl rfl (Nat.le_of_ble_eq_true rfl) (Nat.le_of_ble_eq_true rfl) (Nat.le_of_ble_eq_true rfl))
  · refine x_xVr (t := 10) (As := [vi x1]) (rest := []) hX dX11_restock_2 (c_X11_needItem (gk hX) (gl hX) hs x1 M _ er_1) kX11_needItem vX11_needItem w_1092 (st0 hs) rfl rfl rfl rfl (Nat.le_of_ble_eq_true rfl) (kf hN (a := 1) (b := 6) (Nat.le_of_ble_eq_true rfl) (Nat.le_of_ble_eq_true rfl)) ?_
    show V X 1 6 _ 5 [some (vr (xG X) 0), some (vi x1), some (vi x2)] [] M
    refine x_iloadn hX dX11_restock_5 rfl ?_
    refine x_iconst hX dX11_restock_6 ?_
    refine x_sipush hX dX11_restock_7 sp_999 ?_
    refine x_aloadn hX dX11_restock_10 rfl ?_
    refine x_getRj (j := 1) hX dX11_restock_11 fl_X11_10 rfl (st0 hs) rfl ?_
    refine x_getRj (j := 5) hX dX11_restock_14 fl_X11_62 rfl (st1 hs) rfl ?_
    refine x_getRj (j := 9) hX dX11_restock_17 fl_X11_111 rfl (st5 hs) rfl ?_
    refine x_iloadn hX dX11_restock_20 rfl ?_
    obtain ⟨b_4, h⟩ := gi_of h
    refine x_iald hX dX11_restock_21 (st9 hs) b_4 rfl ?_
    refine x_isub hX dX11_restock_22 ?_
    rcases cx1_of h with ⟨e_7, ee_7, h⟩ | ⟨r_5, er_5, h⟩
    · exact x_rs2 (f := ovi) h (x_xSt (As := [vi x2, vi 1, vi (999 - (M 9 (ix x1)))]) (rest := []) hX hN dX11_restock_23 (c_X11_needArgument (gk hX) (gl hX) x2 1 (999 - (M 9 (ix x1))) M _ ee_7) kX11_needArgument sX11_needArgument w_965 rfl rfl rfl (Nat.le_of_ble_eq_true rfl) (Nat.le_of_ble_eq_true rfl) (Nat.le_of_ble_eq_true rfl))
    · refine x_xSr (As := [vi x2, vi 1, vi (999 - (M 9 (ix x1)))]) (rest := []) hX dX11_restock_23 (c_X11_needArgument (gk hX) (gl hX) x2 1 (999 - (M 9 (ix x1))) M _ er_5) kX11_needArgument sX11_needArgument w_965 rfl rfl rfl (Nat.le_of_ble_eq_true rfl) (kf hN (a := 2) (b := 12) (Nat.le_of_ble_eq_true rfl) (Nat.le_of_ble_eq_true rfl)) ?_
      show V X 2 12 _ 26 [some (vr (xG X) 0), some (vi x1), some (vi x2)] [] M
      refine x_aloadn hX dX11_restock_26 rfl ?_
      refine x_getRj (j := 1) hX dX11_restock_27 fl_X11_10 rfl (st0 hs) rfl ?_
      refine x_getRj (j := 5) hX dX11_restock_30 fl_X11_62 rfl (st1 hs) rfl ?_
      refine x_getRj (j := 9) hX dX11_restock_33 fl_X11_111 rfl (st5 hs) rfl ?_
      refine x_iloadn hX dX11_restock_36 rfl ?_
      refine x_dup2 hX dX11_restock_37 rfl rfl ?_
      obtain ⟨b_8, h⟩ := gi_of h
      refine x_iald hX dX11_restock_38 (st9 hs) b_8 rfl ?_
      refine x_iloadn hX dX11_restock_39 rfl ?_
      refine x_iadd hX dX11_restock_40 ?_
      obtain ⟨b_10, h⟩ := gi_of h
      obtain ⟨M_9, eM_9, h⟩ := bnd_of h
      refine x_iast hX dX11_restock_41 (st9 hs) b_10 rfl (x_meq eM_9 ?_)
      refine x_aloadn hX dX11_restock_42 rfl ?_
      refine x_getRj (j := 1) hX dX11_restock_43 fl_X11_10 rfl (st0 hs) rfl ?_
      refine x_getRj (j := 5) hX dX11_restock_46 fl_X11_62 rfl (st1 hs) rfl ?_
      refine x_getRj (j := 9) hX dX11_restock_49 fl_X11_111 rfl (st5 hs) rfl ?_
      refine x_iloadn hX dX11_restock_52 rfl ?_
      obtain ⟨b_11, h⟩ := gi_of h
      refine x_iald hX dX11_restock_53 (st9 hs) b_11 rfl ?_
      cases h
      exact x_iretX hX dX11_restock_54 (Nat.le_of_ble_eq_true rfl) (Nat.le_of_ble_eq_true rfl)
set_option maxRecDepth 100000 in
set_option maxHeartbeats 4000000 in
theorem tj_X11_addLine_58 {X : Cxt} (hX : Gd X RX11 cX11_addLine 5 (some .int) 3) (hN : NX X 4 24) (hs : SOK (xG X))   (M : Mem) (r : Nat ⊕ Int) (Mr : Mem) (h : j_X11_addLine_58 M = some (r, Mr)) : V X 3 18 (Qx X 4 24 (ovi r) Mr) 58 [none, none, none, none, none] [] M := by
  unfold j_X11_addLine_58 at h
  cases h
  exact x_thrS (x := 1) (k' := 17) hX hN dX11_addLine_58 dX11_addLine_61 dX11_addLine_62 dX11_addLine_64 dX11_addLine_67 thr_72_76 rfl (Nat.le_of_ble_eq_true rfl) (Nat.le_of_ble_eq_true rfl) (Nat.le_of_ble_eq_true rfl)
set_option maxRecDepth 100000 in
set_option maxHeartbeats 4000000 in
theorem c_X11_addLine {l : Launch} {G : Gx} (hG : GOK G) (hl : l.stackTraces = false) (hs : SOK G)  (x1 : Int) (x2 : Int) (x3 : Int) (M : Mem) (r : Nat ⊕ Int) (Mr : Mem) (h : f_X11_addLine x1 x2 x3 M = some (r, Mr)) : Cx l G mX11_addLine 3 4 24 [vr G 0, vi x1, vi x2, vi x3] M (ovi r) Mr := by
  refine Cx_of2 (ls := [some (vr G 0), some (vi x1), some (vi x2), some (vi x3), none]) hG hl kX11_addLine rfl (Nat.le_of_ble_eq_true rfl) rfl rfl rfl rfl rfl (fun X eG el hX hN => ?_)
  subst eG; subst el
  unfold f_X11_addLine at h
  refine x_aloadn hX dX11_addLine_0 rfl ?_
  refine x_iloadn hX dX11_addLine_1 rfl ?_
  rcases cx1_of h with ⟨e_3, ee_3, h⟩ | ⟨r_1, er_1, h⟩
  · exact x_rs2 (f := ovi) h (x_xVt (t := 10) (As := [vi x1]) (rest := []) hX hN dX11_addLine_2 (c_X11_needOrder (gk hX) (gl hX) hs x1 M _ ee_3) kX11_needOrder vX11_needOrder w_1123 (st0 hs) rfl rfl rfl rfl (Nat.le_of_ble_eq_true rfl) (Nat.le_of_ble_eq_true rfl) (Nat.le_of_ble_eq_true rfl))
  · refine x_xVr (t := 10) (As := [vi x1]) (rest := []) hX dX11_addLine_2 (c_X11_needOrder (gk hX) (gl hX) hs x1 M _ er_1) kX11_needOrder vX11_needOrder w_1123 (st0 hs) rfl rfl rfl rfl (Nat.le_of_ble_eq_true rfl) (kf hN (a := 1) (b := 6) (Nat.le_of_ble_eq_true rfl) (Nat.le_of_ble_eq_true rfl)) ?_
    show V X 1 6 _ 5 [some (vr (xG X) 0), some (vi x1), some (vi x2), some (vi x3), none] [] M
    refine x_aloadn hX dX11_addLine_5 rfl ?_
    refine x_iloadn hX dX11_addLine_6 rfl ?_
    rcases cx1_of h with ⟨e_6, ee_6, h⟩ | ⟨r_4, er_4, h⟩
    · exact x_rs2 (f := ovi) h (x_xVt (t := 10) (As := [vi x2]) (rest := []) hX hN dX11_addLine_7 (c_X11_needItem (gk hX) (gl hX) hs x2 M _ ee_6) kX11_needItem vX11_needItem w_1092 (st0 hs) rfl rfl rfl rfl (Nat.le_of_ble_eq_true rfl) (Nat.le_of_ble_eq_true rfl) (Nat.le_of_ble_eq_true rfl))
    · refine x_xVr (t := 10) (As := [vi x2]) (rest := []) hX dX11_addLine_7 (c_X11_needItem (gk hX) (gl hX) hs x2 M _ er_4) kX11_needItem vX11_needItem w_1092 (st0 hs) rfl rfl rfl rfl (Nat.le_of_ble_eq_true rfl) (kf hN (a := 2) (b := 12) (Nat.le_of_ble_eq_true rfl) (Nat.le_of_ble_eq_true rfl)) ?_
      show V X 2 12 _ 10 [some (vr (xG X) 0), some (vi x1), some (vi x2), some (vi x3), none] [] M
      refine x_iloadn hX dX11_addLine_10 rfl ?_
      refine x_iconst hX dX11_addLine_11 ?_
      refine x_bipush hX dX11_addLine_12 bp_99 ?_
      rcases cx1_of h with ⟨e_9, ee_9, h⟩ | ⟨r_7, er_7, h⟩
      · exact x_rs2 (f := ovi) h (x_xSt (As := [vi x3, vi 1, vi 99]) (rest := []) hX hN dX11_addLine_14 (c_X11_needArgument (gk hX) (gl hX) x3 1 99 M _ ee_9) kX11_needArgument sX11_needArgument w_965 rfl rfl rfl (Nat.le_of_ble_eq_true rfl) (Nat.le_of_ble_eq_true rfl) (Nat.le_of_ble_eq_true rfl))
      · refine x_xSr (As := [vi x3, vi 1, vi 99]) (rest := []) hX dX11_addLine_14 (c_X11_needArgument (gk hX) (gl hX) x3 1 99 M _ er_7) kX11_needArgument sX11_needArgument w_965 rfl rfl rfl (Nat.le_of_ble_eq_true rfl) (kf hN (a := 3) (b := 18) (Nat.le_of_ble_eq_true rfl) (Nat.le_of_ble_eq_true rfl)) ?_
        show V X 3 18 _ 17 [some (vr (xG X) 0), some (vi x1), some (vi x2), some (vi x3), none] [] M
        refine x_aloadn hX dX11_addLine_17 rfl ?_
        refine x_getRj (j := 1) hX dX11_addLine_18 fl_X11_10 rfl (st0 hs) rfl ?_
        refine x_getRj (j := 10) hX dX11_addLine_21 fl_X11_118 rfl (st1 hs) rfl ?_
        refine x_astore (ls' := [some (vr (xG X) 0), some (vi x1), some (vi x2), some (vi x3), some (vr (xG X) 10)]) hX dX11_addLine_24 rfl rfl ?_
        refine x_aload hX dX11_addLine_26 rfl ?_
        refine x_getRj (j := 12) hX dX11_addLine_28 fl_X11_130 rfl (st10 hs) rfl ?_
        refine x_iloadn hX dX11_addLine_31 rfl ?_
        obtain ⟨b_10, h⟩ := gi_of h
        refine x_iald hX dX11_addLine_32 (st12 hs) b_10 rfl ?_
        refine x_if_ne (tgt := 58) hX dX11_addLine_33 (by decide) rfl (fun hc => ?_) (fun hc => ?_)
        · replace h := (if_pos hc).symm.trans h
          refine x_aload hX dX11_addLine_36 rfl ?_
          refine x_getRj (j := 13) hX dX11_addLine_38 fl_X11_133 rfl (st10 hs) rfl ?_
          refine x_iloadn hX dX11_addLine_41 rfl ?_
          obtain ⟨b_11, h⟩ := gi_of h
          refine x_iald hX dX11_addLine_42 (st13 hs) b_11 rfl ?_
          refine x_bipush hX dX11_addLine_43 bp_6 ?_
          refine x_icmp_ge (tgt := 58) hX dX11_addLine_45 (by decide) rfl cw_6 (fun hc => ?_) (fun hc => ?_)
          · replace h := (if_pos hc).symm.trans h
            refine x_aload hX dX11_addLine_48 rfl ?_
            refine x_iloadn hX dX11_addLine_50 rfl ?_
            refine x_iloadn hX dX11_addLine_51 rfl ?_
            obtain ⟨r_12, er_12, h⟩ := cl1_of h
            refine x_callVi (t := 5) (As := [vi x1, vi x2]) (rest := []) hX dX11_addLine_52 (c_X5_hasItem (gk hX) (gl hX) (st10 hs) x1 x2 M _ er_12) kX5_hasItem vX5_hasItem w_1127 (st10 hs) rfl rfl rfl rfl (Nat.le_of_ble_eq_true rfl) (kf hN (a := 3) (b := 18) (Nat.le_of_ble_eq_true rfl) (Nat.le_of_ble_eq_true rfl)) ?_
            refine x_if_eq (tgt := 68) hX dX11_addLine_55 (by decide) rfl (fun hc => ?_) (fun hc => ?_)
            · replace h := (if_pos hc).symm.trans h
              refine x_aload hX dX11_addLine_68 rfl ?_
              refine x_iloadn hX dX11_addLine_70 rfl ?_
              refine x_iloadn hX dX11_addLine_71 rfl ?_
              refine x_iloadn hX dX11_addLine_72 rfl ?_
              obtain ⟨r_14, M_15, er_14, h⟩ := cl2_of h
              refine x_callVi (t := 5) (As := [vi x1, vi x2, vi x3]) (rest := []) hX dX11_addLine_73 (c_X5_appendLine (gk hX) (gl hX) (st10 hs) x1 x2 x3 M _ _ er_14) kX5_appendLine vX5_appendLine w_1129 (st10 hs) rfl rfl rfl rfl (Nat.le_of_ble_eq_true rfl) (kf hN (a := 3) (b := 18) (Nat.le_of_ble_eq_true rfl) (Nat.le_of_ble_eq_true rfl)) ?_
              cases h
              exact x_iretX hX dX11_addLine_76 (Nat.le_of_ble_eq_true rfl) (Nat.le_of_ble_eq_true rfl)
            · replace h := (if_neg hc).symm.trans h
              exact x_weak [false, false, false, false, false] rfl (tj_X11_addLine_58 hX hN hs M r Mr h)
          · replace h := (if_neg hc).symm.trans h
            exact x_weak [false, false, false, false, false] rfl (tj_X11_addLine_58 hX hN hs M r Mr h)
        · replace h := (if_neg hc).symm.trans h
          exact x_weak [false, false, false, false, false] rfl (tj_X11_addLine_58 hX hN hs M r Mr h)
set_option maxRecDepth 100000 in
set_option maxHeartbeats 4000000 in
theorem c_X11_orderState {l : Launch} {G : Gx} (hG : GOK G) (hl : l.stackTraces = false) (hs : SOK G)  (x1 : Int) (M : Mem) (r : Nat ⊕ Int) (h : f_X11_orderState x1 M = some r) : Cx l G mX11_orderState 3 1 6 [vr G 0, vi x1] M (ovi r) M := by
  refine Cx_of2 (ls := [some (vr G 0), some (vi x1)]) hG hl kX11_orderState rfl (Nat.le_of_ble_eq_true rfl) rfl rfl rfl rfl rfl (fun X eG el hX hN => ?_)
  subst eG; subst el
  unfold f_X11_orderState at h
  refine x_aloadn hX dX11_orderState_0 rfl ?_
  refine x_iloadn hX dX11_orderState_1 rfl ?_
  rcases cx1_of h with ⟨e_3, ee_3, h⟩ | ⟨r_1, er_1, h⟩
  · exact x_rs1 (f := ovi) h (x_xVt (t := 10) (As := [vi x1]) (rest := []) hX hN dX11_orderState_2 (c_X11_needOrder (gk hX) (gl hX) hs x1 M _ ee_3) kX11_needOrder vX11_needOrder w_1123 (st0 hs) rfl rfl rfl rfl (Nat.le_of_ble_eq_true rfl) (Nat.le_of_ble_eq_true rfl) (Nat.le_of_ble_eq_true rfl))
  · refine x_xVr (t := 10) (As := [vi x1]) (rest := []) hX dX11_orderState_2 (c_X11_needOrder (gk hX) (gl hX) hs x1 M _ er_1) kX11_needOrder vX11_needOrder w_1123 (st0 hs) rfl rfl rfl rfl (Nat.le_of_ble_eq_true rfl) (kf hN (a := 1) (b := 6) (Nat.le_of_ble_eq_true rfl) (Nat.le_of_ble_eq_true rfl)) ?_
    show V X 1 6 _ 5 [some (vr (xG X) 0), some (vi x1)] [] M
    refine x_aloadn hX dX11_orderState_5 rfl ?_
    refine x_getRj (j := 1) hX dX11_orderState_6 fl_X11_10 rfl (st0 hs) rfl ?_
    refine x_getRj (j := 10) hX dX11_orderState_9 fl_X11_118 rfl (st1 hs) rfl ?_
    refine x_getRj (j := 12) hX dX11_orderState_12 fl_X11_130 rfl (st10 hs) rfl ?_
    refine x_iloadn hX dX11_orderState_15 rfl ?_
    obtain ⟨b_4, h⟩ := gi_of h
    refine x_iald hX dX11_orderState_16 (st12 hs) b_4 rfl ?_
    cases h
    exact x_iretX hX dX11_orderState_17 (Nat.le_of_ble_eq_true rfl) (Nat.le_of_ble_eq_true rfl)
set_option maxRecDepth 100000 in
set_option maxHeartbeats 4000000 in
theorem c_X11_lineCount {l : Launch} {G : Gx} (hG : GOK G) (hl : l.stackTraces = false) (hs : SOK G)  (x1 : Int) (M : Mem) (r : Nat ⊕ Int) (h : f_X11_lineCount x1 M = some r) : Cx l G mX11_lineCount 3 1 6 [vr G 0, vi x1] M (ovi r) M := by
  refine Cx_of2 (ls := [some (vr G 0), some (vi x1)]) hG hl kX11_lineCount rfl (Nat.le_of_ble_eq_true rfl) rfl rfl rfl rfl rfl (fun X eG el hX hN => ?_)
  subst eG; subst el
  unfold f_X11_lineCount at h
  refine x_aloadn hX dX11_lineCount_0 rfl ?_
  refine x_iloadn hX dX11_lineCount_1 rfl ?_
  rcases cx1_of h with ⟨e_3, ee_3, h⟩ | ⟨r_1, er_1, h⟩
  · exact x_rs1 (f := ovi) h (x_xVt (t := 10) (As := [vi x1]) (rest := []) hX hN dX11_lineCount_2 (c_X11_needOrder (gk hX) (gl hX) hs x1 M _ ee_3) kX11_needOrder vX11_needOrder w_1123 (st0 hs) rfl rfl rfl rfl (Nat.le_of_ble_eq_true rfl) (Nat.le_of_ble_eq_true rfl) (Nat.le_of_ble_eq_true rfl))
  · refine x_xVr (t := 10) (As := [vi x1]) (rest := []) hX dX11_lineCount_2 (c_X11_needOrder (gk hX) (gl hX) hs x1 M _ er_1) kX11_needOrder vX11_needOrder w_1123 (st0 hs) rfl rfl rfl rfl (Nat.le_of_ble_eq_true rfl) (kf hN (a := 1) (b := 6) (Nat.le_of_ble_eq_true rfl) (Nat.le_of_ble_eq_true rfl)) ?_
    show V X 1 6 _ 5 [some (vr (xG X) 0), some (vi x1)] [] M
    refine x_aloadn hX dX11_lineCount_5 rfl ?_
    refine x_getRj (j := 1) hX dX11_lineCount_6 fl_X11_10 rfl (st0 hs) rfl ?_
    refine x_getRj (j := 10) hX dX11_lineCount_9 fl_X11_118 rfl (st1 hs) rfl ?_
    refine x_getRj (j := 13) hX dX11_lineCount_12 fl_X11_133 rfl (st10 hs) rfl ?_
    refine x_iloadn hX dX11_lineCount_15 rfl ?_
    obtain ⟨b_4, h⟩ := gi_of h
    refine x_iald hX dX11_lineCount_16 (st13 hs) b_4 rfl ?_
    cases h
    exact x_iretX hX dX11_lineCount_17 (Nat.le_of_ble_eq_true rfl) (Nat.le_of_ble_eq_true rfl)
set_option maxRecDepth 100000 in
set_option maxHeartbeats 4000000 in
theorem c_X11_due {l : Launch} {G : Gx} (hG : GOK G) (hl : l.stackTraces = false) (hs : SOK G)  (x1 : Int) (M : Mem) (r : Nat ⊕ Int) (h : f_X11_due x1 M = some r) : Cx l G mX11_due 3 1 6 [vr G 0, vi x1] M (ovi r) M := by
  refine Cx_of2 (ls := [some (vr G 0), some (vi x1)]) hG hl kX11_due rfl (Nat.le_of_ble_eq_true rfl) rfl rfl rfl rfl rfl (fun X eG el hX hN => ?_)
  subst eG; subst el
  unfold f_X11_due at h
  refine x_aloadn hX dX11_due_0 rfl ?_
  refine x_iloadn hX dX11_due_1 rfl ?_
  rcases cx1_of h with ⟨e_3, ee_3, h⟩ | ⟨r_1, er_1, h⟩
  · exact x_rs1 (f := ovi) h (x_xVt (t := 10) (As := [vi x1]) (rest := []) hX hN dX11_due_2 (c_X11_needOrder (gk hX) (gl hX) hs x1 M _ ee_3) kX11_needOrder vX11_needOrder w_1123 (st0 hs) rfl rfl rfl rfl (Nat.le_of_ble_eq_true rfl) (Nat.le_of_ble_eq_true rfl) (Nat.le_of_ble_eq_true rfl))
  · refine x_xVr (t := 10) (As := [vi x1]) (rest := []) hX dX11_due_2 (c_X11_needOrder (gk hX) (gl hX) hs x1 M _ er_1) kX11_needOrder vX11_needOrder w_1123 (st0 hs) rfl rfl rfl rfl (Nat.le_of_ble_eq_true rfl) (kf hN (a := 1) (b := 6) (Nat.le_of_ble_eq_true rfl) (Nat.le_of_ble_eq_true rfl)) ?_
    show V X 1 6 _ 5 [some (vr (xG X) 0), some (vi x1)] [] M
    refine x_aloadn hX dX11_due_5 rfl ?_
    refine x_getRj (j := 1) hX dX11_due_6 fl_X11_10 rfl (st0 hs) rfl ?_
    refine x_getRj (j := 10) hX dX11_due_9 fl_X11_118 rfl (st1 hs) rfl ?_
    refine x_getRj (j := 11) hX dX11_due_12 fl_X11_147 rfl (st10 hs) rfl ?_
    refine x_iloadn hX dX11_due_15 rfl ?_
    obtain ⟨b_4, h⟩ := gi_of h
    refine x_iald hX dX11_due_16 (st11 hs) b_4 rfl ?_
    cases h
    exact x_iretX hX dX11_due_17 (Nat.le_of_ble_eq_true rfl) (Nat.le_of_ble_eq_true rfl)
set_option maxRecDepth 100000 in
set_option maxHeartbeats 4000000 in
theorem c_X11_setDue {l : Launch} {G : Gx} (hG : GOK G) (hl : l.stackTraces = false) (hs : SOK G)  (x1 : Int) (x2 : Int) (M : Mem) (r : Nat ⊕ Int) (Mr : Mem) (h : f_X11_setDue x1 x2 M = some (r, Mr)) : Cx l G mX11_setDue 3 3 18 [vr G 0, vi x1, vi x2] M (ovi r) Mr := by
  refine Cx_of2 (ls := [some (vr G 0), some (vi x1), some (vi x2), none]) hG hl kX11_setDue rfl (Nat.le_of_ble_eq_true rfl) rfl rfl rfl rfl rfl (fun X eG el hX hN => ?_)
  subst eG; subst el
  unfold f_X11_setDue at h
  refine x_aloadn hX dX11_setDue_0 rfl ?_
  refine x_iloadn hX dX11_setDue_1 rfl ?_
  rcases cx1_of h with ⟨e_3, ee_3, h⟩ | ⟨r_1, er_1, h⟩
  · exact x_rs2 (f := ovi) h (x_xVt (t := 10) (As := [vi x1]) (rest := []) hX hN dX11_setDue_2 (c_X11_needOrder (gk hX) (gl hX) hs x1 M _ ee_3) kX11_needOrder vX11_needOrder w_1123 (st0 hs) rfl rfl rfl rfl (Nat.le_of_ble_eq_true rfl) (Nat.le_of_ble_eq_true rfl) (Nat.le_of_ble_eq_true rfl))
  · refine x_xVr (t := 10) (As := [vi x1]) (rest := []) hX dX11_setDue_2 (c_X11_needOrder (gk hX) (gl hX) hs x1 M _ er_1) kX11_needOrder vX11_needOrder w_1123 (st0 hs) rfl rfl rfl rfl (Nat.le_of_ble_eq_true rfl) (kf hN (a := 1) (b := 6) (Nat.le_of_ble_eq_true rfl) (Nat.le_of_ble_eq_true rfl)) ?_
    show V X 1 6 _ 5 [some (vr (xG X) 0), some (vi x1), some (vi x2), none] [] M
    refine x_iloadn hX dX11_setDue_5 rfl ?_
    refine x_iconst hX dX11_setDue_6 ?_
    refine x_sipush hX dX11_setDue_7 sp_9999 ?_
    rcases cx1_of h with ⟨e_6, ee_6, h⟩ | ⟨r_4, er_4, h⟩
    · exact x_rs2 (f := ovi) h (x_xSt (As := [vi x2, vi 0, vi 9999]) (rest := []) hX hN dX11_setDue_10 (c_X11_needArgument (gk hX) (gl hX) x2 0 9999 M _ ee_6) kX11_needArgument sX11_needArgument w_965 rfl rfl rfl (Nat.le_of_ble_eq_true rfl) (Nat.le_of_ble_eq_true rfl) (Nat.le_of_ble_eq_true rfl))
    · refine x_xSr (As := [vi x2, vi 0, vi 9999]) (rest := []) hX dX11_setDue_10 (c_X11_needArgument (gk hX) (gl hX) x2 0 9999 M _ er_4) kX11_needArgument sX11_needArgument w_965 rfl rfl rfl (Nat.le_of_ble_eq_true rfl) (kf hN (a := 2) (b := 12) (Nat.le_of_ble_eq_true rfl) (Nat.le_of_ble_eq_true rfl)) ?_
      show V X 2 12 _ 13 [some (vr (xG X) 0), some (vi x1), some (vi x2), none] [] M
      refine x_aloadn hX dX11_setDue_13 rfl ?_
      refine x_iloadn hX dX11_setDue_14 rfl ?_
      rcases cx1_of h with ⟨e_9, ee_9, h⟩ | ⟨r_7, er_7, h⟩
      · exact x_rs2 (f := ovi) h (x_xVt (t := 10) (As := [vi x1]) (rest := []) hX hN dX11_setDue_15 (c_X11_needUnfinished (gk hX) (gl hX) hs x1 M _ ee_9) kX11_needUnfinished vX11_needUnfinished w_1158 (st0 hs) rfl rfl rfl rfl (Nat.le_of_ble_eq_true rfl) (Nat.le_of_ble_eq_true rfl) (Nat.le_of_ble_eq_true rfl))
      · refine x_xVr (t := 10) (As := [vi x1]) (rest := []) hX dX11_setDue_15 (c_X11_needUnfinished (gk hX) (gl hX) hs x1 M _ er_7) kX11_needUnfinished vX11_needUnfinished w_1158 (st0 hs) rfl rfl rfl rfl (Nat.le_of_ble_eq_true rfl) (kf hN (a := 3) (b := 18) (Nat.le_of_ble_eq_true rfl) (Nat.le_of_ble_eq_true rfl)) ?_
        show V X 3 18 _ 18 [some (vr (xG X) 0), some (vi x1), some (vi x2), none] [] M
        refine x_aloadn hX dX11_setDue_18 rfl ?_
        refine x_getRj (j := 1) hX dX11_setDue_19 fl_X11_10 rfl (st0 hs) rfl ?_
        refine x_getRj (j := 10) hX dX11_setDue_22 fl_X11_118 rfl (st1 hs) rfl ?_
        refine x_getRj (j := 11) hX dX11_setDue_25 fl_X11_147 rfl (st10 hs) rfl ?_
        refine x_iloadn hX dX11_setDue_28 rfl ?_
        obtain ⟨b_10, h⟩ := gi_of h
        refine x_iald hX dX11_setDue_29 (st11 hs) b_10 rfl ?_
        obtain ⟨x3_11, ex3_11, h⟩ := bnd_of h
        refine x_istoren (ls' := [some (vr (xG X) 0), some (vi x1), some (vi x2), some (vi x3_11)]) hX dX11_setDue_30 rfl ex3_11 rfl ?_
        refine x_aloadn hX dX11_setDue_31 rfl ?_
        refine x_getRj (j := 1) hX dX11_setDue_32 fl_X11_10 rfl (st0 hs) rfl ?_
        refine x_getRj (j := 10) hX dX11_setDue_35 fl_X11_118 rfl (st1 hs) rfl ?_
        refine x_getRj (j := 11) hX dX11_setDue_38 fl_X11_147 rfl (st10 hs) rfl ?_
        refine x_iloadn hX dX11_setDue_41 rfl ?_
        refine x_iloadn hX dX11_setDue_42 rfl ?_
        obtain ⟨b_13, h⟩ := gi_of h
        obtain ⟨M_12, eM_12, h⟩ := bnd_of h
        refine x_iast hX dX11_setDue_43 (st11 hs) b_13 rfl (x_meq eM_12 ?_)
        refine x_iloadn hX dX11_setDue_44 rfl ?_
        cases h
        exact x_iretX hX dX11_setDue_45 (Nat.le_of_ble_eq_true rfl) (Nat.le_of_ble_eq_true rfl)
set_option maxRecDepth 100000 in
set_option maxHeartbeats 4000000 in
theorem c_X11_orderWeight {l : Launch} {G : Gx} (hG : GOK G) (hl : l.stackTraces = false) (hs : SOK G)  (x1 : Int) (M : Mem) (r : Nat ⊕ Int) (h : f_X11_orderWeight x1 M = some r) : Cx l G mX11_orderWeight 3 1 6 [vr G 0, vi x1] M (ovi r) M := by
  refine Cx_of2 (ls := [some (vr G 0), some (vi x1)]) hG hl kX11_orderWeight rfl (Nat.le_of_ble_eq_true rfl) rfl rfl rfl rfl rfl (fun X eG el hX hN => ?_)
  subst eG; subst el
  unfold f_X11_orderWeight at h
  refine x_aloadn hX dX11_orderWeight_0 rfl ?_
  refine x_iloadn hX dX11_orderWeight_1 rfl ?_
  rcases cx1_of h with ⟨e_3, ee_3, h⟩ | ⟨r_1, er_1, h⟩
  · exact x_rs1 (f := ovi) h (x_xVt (t := 10) (As := [vi x1]) (rest := []) hX hN dX11_orderWeight_2 (c_X11_needOrder (gk hX) (gl hX) hs x1 M _ ee_3) kX11_needOrder vX11_needOrder w_1123 (st0 hs) rfl rfl rfl rfl (Nat.le_of_ble_eq_true rfl) (Nat.le_of_ble_eq_true rfl) (Nat.le_of_ble_eq_true rfl))
  · refine x_xVr (t := 10) (As := [vi x1]) (rest := []) hX dX11_orderWeight_2 (c_X11_needOrder (gk hX) (gl hX) hs x1 M _ er_1) kX11_needOrder vX11_needOrder w_1123 (st0 hs) rfl rfl rfl rfl (Nat.le_of_ble_eq_true rfl) (kf hN (a := 1) (b := 6) (Nat.le_of_ble_eq_true rfl) (Nat.le_of_ble_eq_true rfl)) ?_
    show V X 1 6 _ 5 [some (vr (xG X) 0), some (vi x1)] [] M
    refine x_aloadn hX dX11_orderWeight_5 rfl ?_
    refine x_getRj (j := 1) hX dX11_orderWeight_6 fl_X11_10 rfl (st0 hs) rfl ?_
    refine x_iloadn hX dX11_orderWeight_9 rfl ?_
    obtain ⟨r_4, er_4, h⟩ := cl1_of h
    refine x_callVi (t := 1) (As := [vi x1]) (rest := []) hX dX11_orderWeight_10 (c_X1_weightOf (gk hX) (gl hX) (st1 hs) x1 M _ er_4) kX1_weightOf vX1_weightOf w_1170 (st1 hs) rfl rfl rfl rfl (Nat.le_of_ble_eq_true rfl) (kf hN (a := 1) (b := 6) (Nat.le_of_ble_eq_true rfl) (Nat.le_of_ble_eq_true rfl)) ?_
    cases h
    exact x_iretX hX dX11_orderWeight_13 (Nat.le_of_ble_eq_true rfl) (Nat.le_of_ble_eq_true rfl)
set_option maxRecDepth 100000 in
set_option maxHeartbeats 4000000 in
theorem c_X11_orderAisles {l : Launch} {G : Gx} (hG : GOK G) (hl : l.stackTraces = false) (hs : SOK G)  (x1 : Int) (M : Mem) (r : Nat ⊕ Int) (h : f_X11_orderAisles x1 M = some r) : Cx l G mX11_orderAisles 3 1 6 [vr G 0, vi x1] M (ovi r) M := by
  refine Cx_of2 (ls := [some (vr G 0), some (vi x1)]) hG hl kX11_orderAisles rfl (Nat.le_of_ble_eq_true rfl) rfl rfl rfl rfl rfl (fun X eG el hX hN => ?_)
  subst eG; subst el
  unfold f_X11_orderAisles at h
  refine x_aloadn hX dX11_orderAisles_0 rfl ?_
  refine x_iloadn hX dX11_orderAisles_1 rfl ?_
  rcases cx1_of h with ⟨e_3, ee_3, h⟩ | ⟨r_1, er_1, h⟩
  · exact x_rs1 (f := ovi) h (x_xVt (t := 10) (As := [vi x1]) (rest := []) hX hN dX11_orderAisles_2 (c_X11_needOrder (gk hX) (gl hX) hs x1 M _ ee_3) kX11_needOrder vX11_needOrder w_1123 (st0 hs) rfl rfl rfl rfl (Nat.le_of_ble_eq_true rfl) (Nat.le_of_ble_eq_true rfl) (Nat.le_of_ble_eq_true rfl))
  · refine x_xVr (t := 10) (As := [vi x1]) (rest := []) hX dX11_orderAisles_2 (c_X11_needOrder (gk hX) (gl hX) hs x1 M _ er_1) kX11_needOrder vX11_needOrder w_1123 (st0 hs) rfl rfl rfl rfl (Nat.le_of_ble_eq_true rfl) (kf hN (a := 1) (b := 6) (Nat.le_of_ble_eq_true rfl) (Nat.le_of_ble_eq_true rfl)) ?_
    show V X 1 6 _ 5 [some (vr (xG X) 0), some (vi x1)] [] M
    refine x_aloadn hX dX11_orderAisles_5 rfl ?_
    refine x_getRj (j := 1) hX dX11_orderAisles_6 fl_X11_10 rfl (st0 hs) rfl ?_
    refine x_iloadn hX dX11_orderAisles_9 rfl ?_
    obtain ⟨r_4, er_4, h⟩ := cl1_of h
    refine x_callVi (t := 1) (As := [vi x1]) (rest := []) hX dX11_orderAisles_10 (c_X1_aislesOf (gk hX) (gl hX) (st1 hs) x1 M _ er_4) kX1_aislesOf vX1_aislesOf w_1181 (st1 hs) rfl rfl rfl rfl (Nat.le_of_ble_eq_true rfl) (kf hN (a := 1) (b := 6) (Nat.le_of_ble_eq_true rfl) (Nat.le_of_ble_eq_true rfl)) ?_
    cases h
    exact x_iretX hX dX11_orderAisles_13 (Nat.le_of_ble_eq_true rfl) (Nat.le_of_ble_eq_true rfl)
set_option maxRecDepth 100000 in
set_option maxHeartbeats 4000000 in
theorem tj_X11_addBatch_19 {X : Cxt} (hX : Gd X RX11 cX11_addBatch 2 (some .int) 3) (hN : NX X 2 12) (hs : SOK (xG X))   (M : Mem) (r : Nat ⊕ Int) (Mr : Mem) (h : j_X11_addBatch_19 M = some (r, Mr)) : V X 0 0 (Qx X 2 12 (ovi r) Mr) 19 [none, none] [] M := by
  unfold j_X11_addBatch_19 at h
  cases h
  exact x_thrS (x := 2) (k' := 19) hX hN dX11_addBatch_19 dX11_addBatch_22 dX11_addBatch_23 dX11_addBatch_25 dX11_addBatch_28 thr_178_182 rfl (Nat.le_of_ble_eq_true rfl) (Nat.le_of_ble_eq_true rfl) (Nat.le_of_ble_eq_true rfl)
set_option maxRecDepth 100000 in
set_option maxHeartbeats 4000000 in
theorem tj_X11_addBatch_55 {X : Cxt} (hX : Gd X RX11 cX11_addBatch 2 (some .int) 3) (hN : NX X 2 12) (hs : SOK (xG X))   (M : Mem) (r : Nat ⊕ Int) (Mr : Mem) (h : j_X11_addBatch_55 M = some (r, Mr)) : V X 0 0 (Qx X 2 12 (ovi r) Mr) 55 [none, none] [] M := by
  unfold j_X11_addBatch_55 at h
  cases h
  exact x_thrS (x := 1) (k' := 20) hX hN dX11_addBatch_55 dX11_addBatch_58 dX11_addBatch_59 dX11_addBatch_61 dX11_addBatch_64 thr_72_76 rfl (Nat.le_of_ble_eq_true rfl) (Nat.le_of_ble_eq_true rfl) (Nat.le_of_ble_eq_true rfl)
set_option maxRecDepth 100000 in
set_option maxHeartbeats 4000000 in
theorem c_X11_addBatch {l : Launch} {G : Gx} (hG : GOK G) (hl : l.stackTraces = false) (hs : SOK G)  (x1 : Int) (M : Mem) (r : Nat ⊕ Int) (Mr : Mem) (h : f_X11_addBatch x1 M = some (r, Mr)) : Cx l G mX11_addBatch 3 2 12 [vr G 0, vi x1] M (ovi r) Mr := by
  refine Cx_of2 (ls := [some (vr G 0), some (vi x1)]) hG hl kX11_addBatch rfl (Nat.le_of_ble_eq_true rfl) rfl rfl rfl rfl rfl (fun X eG el hX hN => ?_)
  subst eG; subst el
  unfold f_X11_addBatch at h
  refine x_iloadn hX dX11_addBatch_0 rfl ?_
  refine x_if_eq (tgt := 19) hX dX11_addBatch_1 (by decide) rfl (fun hc => ?_) (fun hc => ?_)
  · replace h := (if_pos hc).symm.trans h
    exact x_weak [false, false] rfl (tj_X11_addBatch_19 hX hN hs M r Mr h)
  · replace h := (if_neg hc).symm.trans h
    refine x_iloadn hX dX11_addBatch_4 rfl ?_
    refine x_aloadn hX dX11_addBatch_5 rfl ?_
    refine x_getRj (j := 1) hX dX11_addBatch_6 fl_X11_10 rfl (st0 hs) rfl ?_
    refine x_getRj (j := 10) hX dX11_addBatch_9 fl_X11_118 rfl (st1 hs) rfl ?_
    refine x_getI hX dX11_addBatch_12 fl_X11_146 rfl (st10 hs) ?_
    refine x_ishr hX dX11_addBatch_15 ?_
    refine x_if_eq (tgt := 29) hX dX11_addBatch_16 (by decide) rfl (fun hc => ?_) (fun hc => ?_)
    · replace h := (if_pos hc).symm.trans h
      refine x_aloadn hX dX11_addBatch_29 rfl ?_
      refine x_getRj (j := 1) hX dX11_addBatch_30 fl_X11_10 rfl (st0 hs) rfl ?_
      refine x_getRj (j := 17) hX dX11_addBatch_33 fl_X11_159 rfl (st1 hs) rfl ?_
      refine x_getI hX dX11_addBatch_36 fl_X11_168 rfl (st17 hs) ?_
      refine x_bipush hX dX11_addBatch_39 bp_8 ?_
      refine x_icmp_ge (tgt := 55) hX dX11_addBatch_41 (by decide) rfl cw_8 (fun hc => ?_) (fun hc => ?_)
      · replace h := (if_pos hc).symm.trans h
        refine x_aloadn hX dX11_addBatch_44 rfl ?_
        refine x_getRj (j := 1) hX dX11_addBatch_45 fl_X11_10 rfl (st0 hs) rfl ?_
        refine x_iloadn hX dX11_addBatch_48 rfl ?_
        obtain ⟨r_1, er_1, h⟩ := cl1_of h
        refine x_callVi (t := 1) (As := [vi x1]) (rest := []) hX dX11_addBatch_49 (c_X1_canBeBatched (gk hX) (gl hX) (st1 hs) x1 M _ er_1) kX1_canBeBatched vX1_canBeBatched w_1272 (st1 hs) rfl rfl rfl rfl (Nat.le_of_ble_eq_true rfl) (kf hN (a := 0) (b := 0) (Nat.le_of_ble_eq_true rfl) (Nat.le_of_ble_eq_true rfl)) ?_
        refine x_if_ne (tgt := 65) hX dX11_addBatch_52 (by decide) rfl (fun hc => ?_) (fun hc => ?_)
        · replace h := (if_pos hc).symm.trans h
          exact x_weak [false, false] rfl (tj_X11_addBatch_55 hX hN hs M r Mr h)
        · replace h := (if_neg hc).symm.trans h
          refine x_aloadn hX dX11_addBatch_65 rfl ?_
          refine x_getRj (j := 1) hX dX11_addBatch_66 fl_X11_10 rfl (st0 hs) rfl ?_
          refine x_iloadn hX dX11_addBatch_69 rfl ?_
          obtain ⟨r_3, M_4, er_3, h⟩ := cl2_of h
          refine x_callVi (t := 1) (As := [vi x1]) (rest := []) hX dX11_addBatch_70 (c_X1_openBatch (gk hX) (gl hX) (st1 hs) x1 M _ _ er_3) kX1_openBatch vX1_openBatch w_1274 (st1 hs) rfl rfl rfl rfl (Nat.le_of_ble_eq_true rfl) (kf hN (a := 0) (b := 0) (Nat.le_of_ble_eq_true rfl) (Nat.le_of_ble_eq_true rfl)) ?_
          cases h
          exact x_iretX hX dX11_addBatch_73 (Nat.le_of_ble_eq_true rfl) (Nat.le_of_ble_eq_true rfl)
      · replace h := (if_neg hc).symm.trans h
        exact x_weak [false, false] rfl (tj_X11_addBatch_55 hX hN hs M r Mr h)
    · replace h := (if_neg hc).symm.trans h
      exact x_weak [false, false] rfl (tj_X11_addBatch_19 hX hN hs M r Mr h)
set_option maxRecDepth 100000 in
set_option maxHeartbeats 4000000 in
theorem c_X11_dissolve {l : Launch} {G : Gx} (hG : GOK G) (hl : l.stackTraces = false) (hs : SOK G)  (x1 : Int) (M : Mem) (r : Nat ⊕ Int) (Mr : Mem) (h : f_X11_dissolve x1 M = some (r, Mr)) : Cx l G mX11_dissolve 3 1 6 [vr G 0, vi x1] M (ovi r) Mr := by
  refine Cx_of2 (ls := [some (vr G 0), some (vi x1)]) hG hl kX11_dissolve rfl (Nat.le_of_ble_eq_true rfl) rfl rfl rfl rfl rfl (fun X eG el hX hN => ?_)
  subst eG; subst el
  unfold f_X11_dissolve at h
  refine x_aloadn hX dX11_dissolve_0 rfl ?_
  refine x_iloadn hX dX11_dissolve_1 rfl ?_
  rcases cx1_of h with ⟨e_3, ee_3, h⟩ | ⟨r_1, er_1, h⟩
  · exact x_rs2 (f := ovi) h (x_xVt (t := 10) (As := [vi x1]) (rest := []) hX hN dX11_dissolve_2 (c_X11_needBatch (gk hX) (gl hX) hs x1 M _ ee_3) kX11_needBatch vX11_needBatch w_1282 (st0 hs) rfl rfl rfl rfl (Nat.le_of_ble_eq_true rfl) (Nat.le_of_ble_eq_true rfl) (Nat.le_of_ble_eq_true rfl))
  · refine x_xVr (t := 10) (As := [vi x1]) (rest := []) hX dX11_dissolve_2 (c_X11_needBatch (gk hX) (gl hX) hs x1 M _ er_1) kX11_needBatch vX11_needBatch w_1282 (st0 hs) rfl rfl rfl rfl (Nat.le_of_ble_eq_true rfl) (kf hN (a := 1) (b := 6) (Nat.le_of_ble_eq_true rfl) (Nat.le_of_ble_eq_true rfl)) ?_
    show V X 1 6 _ 5 [some (vr (xG X) 0), some (vi x1)] [] M
    refine x_aloadn hX dX11_dissolve_5 rfl ?_
    refine x_getRj (j := 1) hX dX11_dissolve_6 fl_X11_10 rfl (st0 hs) rfl ?_
    refine x_getRj (j := 10) hX dX11_dissolve_9 fl_X11_118 rfl (st1 hs) rfl ?_
    refine x_aloadn hX dX11_dissolve_12 rfl ?_
    refine x_getRj (j := 1) hX dX11_dissolve_13 fl_X11_10 rfl (st0 hs) rfl ?_
    refine x_getRj (j := 17) hX dX11_dissolve_16 fl_X11_159 rfl (st1 hs) rfl ?_
    refine x_getRj (j := 18) hX dX11_dissolve_19 fl_X11_195 rfl (st17 hs) rfl ?_
    refine x_iloadn hX dX11_dissolve_22 rfl ?_
    obtain ⟨b_4, h⟩ := gi_of h
    refine x_iald hX dX11_dissolve_23 (st18 hs) b_4 rfl ?_
    refine x_iconst hX dX11_dissolve_24 ?_
    obtain ⟨M_6, er_5, h⟩ := cl1_of h
    refine x_callVv (t := 5) (As := [vi (M 18 (ix x1)), vi 0]) (rest := []) hX dX11_dissolve_25 (c_X5_setStates (gk hX) (gl hX) (st10 hs) (M 18 (ix x1)) 0 M _ er_5) kX5_setStates vX5_setStates w_1286 (st10 hs) rfl rfl rfl rfl (Nat.le_of_ble_eq_true rfl) (kf hN (a := 1) (b := 6) (Nat.le_of_ble_eq_true rfl) (Nat.le_of_ble_eq_true rfl)) ?_
    refine x_aloadn hX dX11_dissolve_28 rfl ?_
    refine x_getRj (j := 1) hX dX11_dissolve_29 fl_X11_10 rfl (st0 hs) rfl ?_
    refine x_getRj (j := 17) hX dX11_dissolve_32 fl_X11_159 rfl (st1 hs) rfl ?_
    refine x_iloadn hX dX11_dissolve_35 rfl ?_
    obtain ⟨M_8, er_7, h⟩ := cl1_of h
    refine x_callVv (t := 0) (As := [vi x1]) (rest := []) hX dX11_dissolve_36 (c_X0_drop (gk hX) (gl hX) (st17 hs) x1 M_6 _ er_7) kX0_drop vX0_drop w_1287 (st17 hs) rfl rfl rfl rfl (Nat.le_of_ble_eq_true rfl) (kf hN (a := 1) (b := 6) (Nat.le_of_ble_eq_true rfl) (Nat.le_of_ble_eq_true rfl)) ?_
    refine x_aloadn hX dX11_dissolve_39 rfl ?_
    refine x_getRj (j := 1) hX dX11_dissolve_40 fl_X11_10 rfl (st0 hs) rfl ?_
    refine x_getRj (j := 17) hX dX11_dissolve_43 fl_X11_159 rfl (st1 hs) rfl ?_
    refine x_getI hX dX11_dissolve_46 fl_X11_168 rfl (st17 hs) ?_
    cases h
    exact x_iretX hX dX11_dissolve_49 (Nat.le_of_ble_eq_true rfl) (Nat.le_of_ble_eq_true rfl)
set_option maxRecDepth 100000 in
set_option maxHeartbeats 4000000 in
theorem c_X11_batchOrders {l : Launch} {G : Gx} (hG : GOK G) (hl : l.stackTraces = false) (hs : SOK G)  (x1 : Int) (M : Mem) (r : Nat ⊕ Int) (h : f_X11_batchOrders x1 M = some r) : Cx l G mX11_batchOrders 3 1 6 [vr G 0, vi x1] M (ovi r) M := by
  refine Cx_of2 (ls := [some (vr G 0), some (vi x1)]) hG hl kX11_batchOrders rfl (Nat.le_of_ble_eq_true rfl) rfl rfl rfl rfl rfl (fun X eG el hX hN => ?_)
  subst eG; subst el
  unfold f_X11_batchOrders at h
  refine x_aloadn hX dX11_batchOrders_0 rfl ?_
  refine x_iloadn hX dX11_batchOrders_1 rfl ?_
  rcases cx1_of h with ⟨e_3, ee_3, h⟩ | ⟨r_1, er_1, h⟩
  · exact x_rs1 (f := ovi) h (x_xVt (t := 10) (As := [vi x1]) (rest := []) hX hN dX11_batchOrders_2 (c_X11_needBatch (gk hX) (gl hX) hs x1 M _ ee_3) kX11_needBatch vX11_needBatch w_1282 (st0 hs) rfl rfl rfl rfl (Nat.le_of_ble_eq_true rfl) (Nat.le_of_ble_eq_true rfl) (Nat.le_of_ble_eq_true rfl))
  · refine x_xVr (t := 10) (As := [vi x1]) (rest := []) hX dX11_batchOrders_2 (c_X11_needBatch (gk hX) (gl hX) hs x1 M _ er_1) kX11_needBatch vX11_needBatch w_1282 (st0 hs) rfl rfl rfl rfl (Nat.le_of_ble_eq_true rfl) (kf hN (a := 1) (b := 6) (Nat.le_of_ble_eq_true rfl) (Nat.le_of_ble_eq_true rfl)) ?_
    show V X 1 6 _ 5 [some (vr (xG X) 0), some (vi x1)] [] M
    refine x_aloadn hX dX11_batchOrders_5 rfl ?_
    refine x_getRj (j := 1) hX dX11_batchOrders_6 fl_X11_10 rfl (st0 hs) rfl ?_
    refine x_getRj (j := 17) hX dX11_batchOrders_9 fl_X11_159 rfl (st1 hs) rfl ?_
    refine x_getRj (j := 18) hX dX11_batchOrders_12 fl_X11_195 rfl (st17 hs) rfl ?_
    refine x_iloadn hX dX11_batchOrders_15 rfl ?_
    obtain ⟨b_4, h⟩ := gi_of h
    refine x_iald hX dX11_batchOrders_16 (st18 hs) b_4 rfl ?_
    cases h
    exact x_iretX hX dX11_batchOrders_17 (Nat.le_of_ble_eq_true rfl) (Nat.le_of_ble_eq_true rfl)
set_option maxRecDepth 100000 in
set_option maxHeartbeats 4000000 in
theorem c_X11_batchWeight {l : Launch} {G : Gx} (hG : GOK G) (hl : l.stackTraces = false) (hs : SOK G)  (x1 : Int) (M : Mem) (r : Nat ⊕ Int) (h : f_X11_batchWeight x1 M = some r) : Cx l G mX11_batchWeight 3 1 6 [vr G 0, vi x1] M (ovi r) M := by
  refine Cx_of2 (ls := [some (vr G 0), some (vi x1)]) hG hl kX11_batchWeight rfl (Nat.le_of_ble_eq_true rfl) rfl rfl rfl rfl rfl (fun X eG el hX hN => ?_)
  subst eG; subst el
  unfold f_X11_batchWeight at h
  refine x_aloadn hX dX11_batchWeight_0 rfl ?_
  refine x_iloadn hX dX11_batchWeight_1 rfl ?_
  rcases cx1_of h with ⟨e_3, ee_3, h⟩ | ⟨r_1, er_1, h⟩
  · exact x_rs1 (f := ovi) h (x_xVt (t := 10) (As := [vi x1]) (rest := []) hX hN dX11_batchWeight_2 (c_X11_needBatch (gk hX) (gl hX) hs x1 M _ ee_3) kX11_needBatch vX11_needBatch w_1282 (st0 hs) rfl rfl rfl rfl (Nat.le_of_ble_eq_true rfl) (Nat.le_of_ble_eq_true rfl) (Nat.le_of_ble_eq_true rfl))
  · refine x_xVr (t := 10) (As := [vi x1]) (rest := []) hX dX11_batchWeight_2 (c_X11_needBatch (gk hX) (gl hX) hs x1 M _ er_1) kX11_needBatch vX11_needBatch w_1282 (st0 hs) rfl rfl rfl rfl (Nat.le_of_ble_eq_true rfl) (kf hN (a := 1) (b := 6) (Nat.le_of_ble_eq_true rfl) (Nat.le_of_ble_eq_true rfl)) ?_
    show V X 1 6 _ 5 [some (vr (xG X) 0), some (vi x1)] [] M
    refine x_aloadn hX dX11_batchWeight_5 rfl ?_
    refine x_getRj (j := 1) hX dX11_batchWeight_6 fl_X11_10 rfl (st0 hs) rfl ?_
    refine x_aloadn hX dX11_batchWeight_9 rfl ?_
    refine x_getRj (j := 1) hX dX11_batchWeight_10 fl_X11_10 rfl (st0 hs) rfl ?_
    refine x_getRj (j := 17) hX dX11_batchWeight_13 fl_X11_159 rfl (st1 hs) rfl ?_
    refine x_getRj (j := 18) hX dX11_batchWeight_16 fl_X11_195 rfl (st17 hs) rfl ?_
    refine x_iloadn hX dX11_batchWeight_19 rfl ?_
    obtain ⟨b_4, h⟩ := gi_of h
    refine x_iald hX dX11_batchWeight_20 (st18 hs) b_4 rfl ?_
    obtain ⟨r_5, er_5, h⟩ := cl1_of h
    refine x_callVi (t := 1) (As := [vi (M 18 (ix x1))]) (rest := []) hX dX11_batchWeight_21 (c_X1_weightOfAll (gk hX) (gl hX) (st1 hs) (M 18 (ix x1)) M _ er_5) kX1_weightOfAll vX1_weightOfAll w_1302 (st1 hs) rfl rfl rfl rfl (Nat.le_of_ble_eq_true rfl) (kf hN (a := 1) (b := 6) (Nat.le_of_ble_eq_true rfl) (Nat.le_of_ble_eq_true rfl)) ?_
    cases h
    exact x_iretX hX dX11_batchWeight_24 (Nat.le_of_ble_eq_true rfl) (Nat.le_of_ble_eq_true rfl)
set_option maxRecDepth 100000 in
set_option maxHeartbeats 4000000 in
theorem c_X11_zoneOf {l : Launch} {G : Gx} (hG : GOK G) (hl : l.stackTraces = false) (hs : SOK G)  (x1 : Int) (M : Mem) (r : Nat ⊕ Int) (h : f_X11_zoneOf x1 M = some r) : Cx l G mX11_zoneOf 3 1 6 [vr G 0, vi x1] M (ovi r) M := by
  refine Cx_of2 (ls := [some (vr G 0), some (vi x1)]) hG hl kX11_zoneOf rfl (Nat.le_of_ble_eq_true rfl) rfl rfl rfl rfl rfl (fun X eG el hX hN => ?_)
  subst eG; subst el
  unfold f_X11_zoneOf at h
  refine x_aloadn hX dX11_zoneOf_0 rfl ?_
  refine x_iloadn hX dX11_zoneOf_1 rfl ?_
  rcases cx1_of h with ⟨e_3, ee_3, h⟩ | ⟨r_1, er_1, h⟩
  · exact x_rs1 (f := ovi) h (x_xVt (t := 10) (As := [vi x1]) (rest := []) hX hN dX11_zoneOf_2 (c_X11_needAisle (gk hX) (gl hX) hs x1 M _ ee_3) kX11_needAisle vX11_needAisle w_1060 (st0 hs) rfl rfl rfl rfl (Nat.le_of_ble_eq_true rfl) (Nat.le_of_ble_eq_true rfl) (Nat.le_of_ble_eq_true rfl))
  · refine x_xVr (t := 10) (As := [vi x1]) (rest := []) hX dX11_zoneOf_2 (c_X11_needAisle (gk hX) (gl hX) hs x1 M _ er_1) kX11_needAisle vX11_needAisle w_1060 (st0 hs) rfl rfl rfl rfl (Nat.le_of_ble_eq_true rfl) (kf hN (a := 1) (b := 6) (Nat.le_of_ble_eq_true rfl) (Nat.le_of_ble_eq_true rfl)) ?_
    show V X 1 6 _ 5 [some (vr (xG X) 0), some (vi x1)] [] M
    refine x_aloadn hX dX11_zoneOf_5 rfl ?_
    refine x_getRj (j := 1) hX dX11_zoneOf_6 fl_X11_10 rfl (st0 hs) rfl ?_
    refine x_getRj (j := 2) hX dX11_zoneOf_9 fl_X11_79 rfl (st1 hs) rfl ?_
    refine x_iloadn hX dX11_zoneOf_12 rfl ?_
    obtain ⟨r_4, er_4, h⟩ := cl1_of h
    refine x_callVi (t := 3) (As := [vi x1]) (rest := []) hX dX11_zoneOf_13 (c_X3_zoneWith (gk hX) (gl hX) (st2 hs) x1 M _ er_4) kX3_zoneWith vX3_zoneWith w_1399 (st2 hs) rfl rfl rfl rfl (Nat.le_of_ble_eq_true rfl) (kf hN (a := 1) (b := 6) (Nat.le_of_ble_eq_true rfl) (Nat.le_of_ble_eq_true rfl)) ?_
    cases h
    exact x_iretX hX dX11_zoneOf_16 (Nat.le_of_ble_eq_true rfl) (Nat.le_of_ble_eq_true rfl)
set_option maxRecDepth 100000 in
set_option maxHeartbeats 4000000 in
theorem c_X11_stopCount {l : Launch} {G : Gx} (hG : GOK G) (hl : l.stackTraces = false) (hs : SOK G)  (x1 : Int) (x2 : Int) (M : Mem) (r : Nat ⊕ Int) (Mr : Mem) (h : f_X11_stopCount x1 x2 M = some (r, Mr)) : Cx l G mX11_stopCount 3 2 12 [vr G 0, vi x1, vi x2] M (ovi r) Mr := by
  refine Cx_of2 (ls := [some (vr G 0), some (vi x1), some (vi x2)]) hG hl kX11_stopCount rfl (Nat.le_of_ble_eq_true rfl) rfl rfl rfl rfl rfl (fun X eG el hX hN => ?_)
  subst eG; subst el
  unfold f_X11_stopCount at h
  refine x_aloadn hX dX11_stopCount_0 rfl ?_
  refine x_iloadn hX dX11_stopCount_1 rfl ?_
  rcases cx1_of h with ⟨e_3, ee_3, h⟩ | ⟨r_1, er_1, h⟩
  · exact x_rs2 (f := ovi) h (x_xVt (t := 10) (As := [vi x1]) (rest := []) hX hN dX11_stopCount_2 (c_X11_needBatch (gk hX) (gl hX) hs x1 M _ ee_3) kX11_needBatch vX11_needBatch w_1282 (st0 hs) rfl rfl rfl rfl (Nat.le_of_ble_eq_true rfl) (Nat.le_of_ble_eq_true rfl) (Nat.le_of_ble_eq_true rfl))
  · refine x_xVr (t := 10) (As := [vi x1]) (rest := []) hX dX11_stopCount_2 (c_X11_needBatch (gk hX) (gl hX) hs x1 M _ er_1) kX11_needBatch vX11_needBatch w_1282 (st0 hs) rfl rfl rfl rfl (Nat.le_of_ble_eq_true rfl) (kf hN (a := 1) (b := 6) (Nat.le_of_ble_eq_true rfl) (Nat.le_of_ble_eq_true rfl)) ?_
    show V X 1 6 _ 5 [some (vr (xG X) 0), some (vi x1), some (vi x2)] [] M
    refine x_aloadn hX dX11_stopCount_5 rfl ?_
    refine x_iloadn hX dX11_stopCount_6 rfl ?_
    rcases cx1_of h with ⟨e_6, ee_6, h⟩ | ⟨r_4, er_4, h⟩
    · exact x_rs2 (f := ovi) h (x_xVt (t := 10) (As := [vi x2]) (rest := []) hX hN dX11_stopCount_7 (c_X11_needZone (gk hX) (gl hX) hs x2 M _ ee_6) kX11_needZone vX11_needZone w_1424 (st0 hs) rfl rfl rfl rfl (Nat.le_of_ble_eq_true rfl) (Nat.le_of_ble_eq_true rfl) (Nat.le_of_ble_eq_true rfl))
    · refine x_xVr (t := 10) (As := [vi x2]) (rest := []) hX dX11_stopCount_7 (c_X11_needZone (gk hX) (gl hX) hs x2 M _ er_4) kX11_needZone vX11_needZone w_1424 (st0 hs) rfl rfl rfl rfl (Nat.le_of_ble_eq_true rfl) (kf hN (a := 2) (b := 12) (Nat.le_of_ble_eq_true rfl) (Nat.le_of_ble_eq_true rfl)) ?_
      show V X 2 12 _ 10 [some (vr (xG X) 0), some (vi x1), some (vi x2)] [] M
      refine x_aloadn hX dX11_stopCount_10 rfl ?_
      refine x_getRj (j := 40) hX dX11_stopCount_11 fl_X11_33 rfl (st0 hs) rfl ?_
      refine x_aloadn hX dX11_stopCount_14 rfl ?_
      refine x_getRj (j := 1) hX dX11_stopCount_15 fl_X11_10 rfl (st0 hs) rfl ?_
      refine x_aloadn hX dX11_stopCount_18 rfl ?_
      refine x_getRj (j := 1) hX dX11_stopCount_19 fl_X11_10 rfl (st0 hs) rfl ?_
      refine x_getRj (j := 17) hX dX11_stopCount_22 fl_X11_159 rfl (st1 hs) rfl ?_
      refine x_getRj (j := 18) hX dX11_stopCount_25 fl_X11_195 rfl (st17 hs) rfl ?_
      refine x_iloadn hX dX11_stopCount_28 rfl ?_
      obtain ⟨b_7, h⟩ := gi_of h
      refine x_iald hX dX11_stopCount_29 (st18 hs) b_7 rfl ?_
      obtain ⟨M_9, er_8, h⟩ := cl1_of h
      refine x_callVv (t := 6) (As := [vr (xG X) 1, vi (M 18 (ix x1))]) (rest := []) hX dX11_stopCount_30 (c_X6_survey (gk hX) (gl hX) (st40 hs) (st1 hs) (M 18 (ix x1)) M _ er_8) kX6_survey vX6_survey w_1428 (st40 hs) rfl rfl rfl rfl (Nat.le_of_ble_eq_true rfl) (kf hN (a := 2) (b := 12) (Nat.le_of_ble_eq_true rfl) (Nat.le_of_ble_eq_true rfl)) ?_
      refine x_aloadn hX dX11_stopCount_33 rfl ?_
      refine x_getRj (j := 40) hX dX11_stopCount_34 fl_X11_33 rfl (st0 hs) rfl ?_
      refine x_aloadn hX dX11_stopCount_37 rfl ?_
      refine x_getRj (j := 1) hX dX11_stopCount_38 fl_X11_10 rfl (st0 hs) rfl ?_
      refine x_getRj (j := 2) hX dX11_stopCount_41 fl_X11_79 rfl (st1 hs) rfl ?_
      refine x_iloadn hX dX11_stopCount_44 rfl ?_
      obtain ⟨r_10, er_10, h⟩ := cl1_of h
      refine x_callVi (t := 6) (As := [vr (xG X) 2, vi x2]) (rest := []) hX dX11_stopCount_45 (c_X6_itemsIn (gk hX) (gl hX) (st40 hs) (st2 hs) x2 M_9 _ er_10) kX6_itemsIn vX6_itemsIn w_1451 (st40 hs) rfl rfl rfl rfl (Nat.le_of_ble_eq_true rfl) (kf hN (a := 2) (b := 12) (Nat.le_of_ble_eq_true rfl) (Nat.le_of_ble_eq_true rfl)) ?_
      cases h
      exact x_iretX hX dX11_stopCount_48 (Nat.le_of_ble_eq_true rfl) (Nat.le_of_ble_eq_true rfl)
set_option maxRecDepth 100000 in
set_option maxHeartbeats 4000000 in
theorem c_X11_pickBatch {l : Launch} {G : Gx} (hG : GOK G) (hl : l.stackTraces = false) (hs : SOK G)  (M : Mem) (r : Nat ⊕ Int) (Mr : Mem) (h : f_X11_pickBatch M = some (r, Mr)) : Cx l G mX11_pickBatch 3 1 6 [vr G 0] M (ovi r) Mr := by
  refine Cx_of2 (ls := [some (vr G 0)]) hG hl kX11_pickBatch rfl (Nat.le_of_ble_eq_true rfl) rfl rfl rfl rfl rfl (fun X eG el hX hN => ?_)
  subst eG; subst el
  unfold f_X11_pickBatch at h
  refine x_aloadn hX dX11_pickBatch_0 rfl ?_
  refine x_getRj (j := 1) hX dX11_pickBatch_1 fl_X11_10 rfl (st0 hs) rfl ?_
  refine x_getRj (j := 17) hX dX11_pickBatch_4 fl_X11_159 rfl (st1 hs) rfl ?_
  refine x_getI hX dX11_pickBatch_7 fl_X11_168 rfl (st17 hs) ?_
  refine x_if_ne (tgt := 24) hX dX11_pickBatch_10 (by decide) rfl (fun hc => ?_) (fun hc => ?_)
  · replace h := (if_pos hc).symm.trans h
    cases h
    exact x_thrW (x := 1) (k' := 23) hX hN dX11_pickBatch_13 dX11_pickBatch_16 dX11_pickBatch_17 dX11_pickBatch_20 dX11_pickBatch_23 thr_72_76 rfl (Nat.le_of_ble_eq_true rfl) (Nat.le_of_ble_eq_true rfl) (Nat.le_of_ble_eq_true rfl)
  · replace h := (if_neg hc).symm.trans h
    refine x_aloadn hX dX11_pickBatch_24 rfl ?_
    refine x_getRj (j := 1) hX dX11_pickBatch_25 fl_X11_10 rfl (st0 hs) rfl ?_
    obtain ⟨r_1, M_2, er_1, h⟩ := cl2_of h
    refine x_callVi (t := 1) (As := []) (rest := []) hX dX11_pickBatch_28 (c_X1_pickFirstBatch (gk hX) (gl hX) (st1 hs) M _ _ er_1) kX1_pickFirstBatch vX1_pickFirstBatch w_1541 (st1 hs) rfl rfl rfl rfl (Nat.le_of_ble_eq_true rfl) (kf hN (a := 0) (b := 0) (Nat.le_of_ble_eq_true rfl) (Nat.le_of_ble_eq_true rfl)) ?_
    cases h
    exact x_iretX hX dX11_pickBatch_31 (Nat.le_of_ble_eq_true rfl) (Nat.le_of_ble_eq_true rfl)
set_option maxRecDepth 100000 in
set_option maxHeartbeats 4000000 in
theorem c_X11_totalPicked {l : Launch} {G : Gx} (hG : GOK G) (hl : l.stackTraces = false) (hs : SOK G)  (M : Mem) (r : Int) (h : f_X11_totalPicked M = some r) : Cn l G mX11_totalPicked 3 [vr G 0] M (some (vi r)) M := by
  refine Cn_of2 (ls := [some (vr G 0)]) hG hl kX11_totalPicked rfl (Nat.le_of_ble_eq_true rfl) rfl rfl rfl rfl rfl (fun X eG el hX => ?_)
  subst eG; subst el
  unfold f_X11_totalPicked at h
  refine x_aloadn hX dX11_totalPicked_0 rfl ?_
  refine x_getRj (j := 1) hX dX11_totalPicked_1 fl_X11_10 rfl (st0 hs) rfl ?_
  refine x_getRj (j := 10) hX dX11_totalPicked_4 fl_X11_118 rfl (st1 hs) rfl ?_
  obtain ⟨r_1, er_1, h⟩ := cl1_of h
  refine x_callVi (t := 5) (As := []) (rest := []) hX dX11_totalPicked_7 (c_X5_pickedOfDone (gk hX) (gl hX) (st10 hs) M _ er_1) kX5_pickedOfDone vX5_pickedOfDone w_743 (st10 hs) rfl rfl rfl rfl (Nat.le_of_ble_eq_true rfl) z0 ?_
  cases h
  exact x_iret hX dX11_totalPicked_10 rfl
set_option maxRecDepth 100000 in
set_option maxHeartbeats 4000000 in
theorem c_X11_needLine {l : Launch} {G : Gx} (hG : GOK G) (hl : l.stackTraces = false) (hs : SOK G)  (x1 : Int) (x2 : Int) (M : Mem) (r : Nat ⊕ Unit) (h : f_X11_needLine x1 x2 M = some r) : Cx l G mX11_needLine 3 2 12 [vr G 0, vi x1, vi x2] M (ovu r) M := by
  refine Cx_of2 (ls := [some (vr G 0), some (vi x1), some (vi x2)]) hG hl kX11_needLine rfl (Nat.le_of_ble_eq_true rfl) rfl rfl rfl rfl rfl (fun X eG el hX hN => ?_)
  subst eG; subst el
  unfold f_X11_needLine at h
  refine x_aloadn hX dX11_needLine_0 rfl ?_
  refine x_iloadn hX dX11_needLine_1 rfl ?_
  rcases cx1_of h with ⟨e_3, ee_3, h⟩ | ⟨r_1, er_1, h⟩
  · exact x_rs1 (f := ovu) h (x_xVt (t := 10) (As := [vi x1]) (rest := []) hX hN dX11_needLine_2 (c_X11_needOrder (gk hX) (gl hX) hs x1 M _ ee_3) kX11_needOrder vX11_needOrder w_1123 (st0 hs) rfl rfl rfl rfl (Nat.le_of_ble_eq_true rfl) (Nat.le_of_ble_eq_true rfl) (Nat.le_of_ble_eq_true rfl))
  · refine x_xVr (t := 10) (As := [vi x1]) (rest := []) hX dX11_needLine_2 (c_X11_needOrder (gk hX) (gl hX) hs x1 M _ er_1) kX11_needOrder vX11_needOrder w_1123 (st0 hs) rfl rfl rfl rfl (Nat.le_of_ble_eq_true rfl) (kf hN (a := 1) (b := 6) (Nat.le_of_ble_eq_true rfl) (Nat.le_of_ble_eq_true rfl)) ?_
    show V X 1 6 _ 5 [some (vr (xG X) 0), some (vi x1), some (vi x2)] [] M
    refine x_iloadn hX dX11_needLine_5 rfl ?_
    refine x_aloadn hX dX11_needLine_6 rfl ?_
    refine x_getRj (j := 1) hX dX11_needLine_7 fl_X11_10 rfl (st0 hs) rfl ?_
    refine x_getRj (j := 10) hX dX11_needLine_10 fl_X11_118 rfl (st1 hs) rfl ?_
    refine x_getRj (j := 13) hX dX11_needLine_13 fl_X11_133 rfl (st10 hs) rfl ?_
    refine x_iloadn hX dX11_needLine_16 rfl ?_
    obtain ⟨b_4, h⟩ := gi_of h
    refine x_iald hX dX11_needLine_17 (st13 hs) b_4 rfl ?_
    rcases cx1_of h with ⟨e_7, ee_7, h⟩ | ⟨r_5, er_5, h⟩
    · exact x_rs1 (f := ovu) h (x_xSt (As := [vi x2, vi (M 13 (ix x1))]) (rest := []) hX hN dX11_needLine_18 (c_X11_needIndex (gk hX) (gl hX) x2 (M 13 (ix x1)) M _ ee_7) kX11_needIndex sX11_needIndex w_1064 rfl rfl rfl (Nat.le_of_ble_eq_true rfl) (Nat.le_of_ble_eq_true rfl) (Nat.le_of_ble_eq_true rfl))
    · refine x_xSr (As := [vi x2, vi (M 13 (ix x1))]) (rest := []) hX dX11_needLine_18 (c_X11_needIndex (gk hX) (gl hX) x2 (M 13 (ix x1)) M _ er_5) kX11_needIndex sX11_needIndex w_1064 rfl rfl rfl (Nat.le_of_ble_eq_true rfl) (kf hN (a := 2) (b := 12) (Nat.le_of_ble_eq_true rfl) (Nat.le_of_ble_eq_true rfl)) ?_
      show V X 2 12 _ 21 [some (vr (xG X) 0), some (vi x1), some (vi x2)] [] M
      cases h
      exact x_vretX hX dX11_needLine_21 (Nat.le_of_ble_eq_true rfl) (Nat.le_of_ble_eq_true rfl)
set_option maxRecDepth 100000 in
set_option maxHeartbeats 4000000 in
theorem c_X0_takeOut {l : Launch} {G : Gx} (hG : GOK G) (hl : l.stackTraces = false) {th : Nat} (h0 : at_ G th 10 0) (x1 : Int) (M : Mem) (Mr : Mem) (h : f_X0_takeOut th x1 M = some Mr) : Cn l G mX0_takeOut 3 [vr G th, vi x1] M none Mr := by
  refine Cn_of2 (ls := [some (vr G th), some (vi x1), none]) hG hl kX0_takeOut rfl (Nat.le_of_ble_eq_true rfl) rfl rfl rfl rfl rfl (fun X eG el hX => ?_)
  subst eG; subst el
  unfold f_X0_takeOut at h
  refine x_aloadn hX dX0_takeOut_0 rfl ?_
  refine x_iloadn hX dX0_takeOut_1 rfl ?_
  obtain ⟨r_1, er_1, h⟩ := cl1_of h
  refine x_callVi (t := 0) (As := [vi x1]) (rest := []) hX dX0_takeOut_2 (c_X0_batchWith (gk hX) (gl hX) h0 x1 M _ er_1) kX0_batchWith vX0_batchWith w_1196 h0 rfl rfl rfl rfl (Nat.le_of_ble_eq_true rfl) z0 ?_
  refine x_istoren (ls' := [some (vr (xG X) th), some (vi x1), some (vi r_1)]) hX dX0_takeOut_5 rfl rfl rfl ?_
  refine x_iloadn hX dX0_takeOut_6 rfl ?_
  refine x_iconst hX dX0_takeOut_7 ?_
  refine x_icmp_eq (tgt := 17) hX dX0_takeOut_8 (by decide) rfl cw_m1 (fun hc => ?_) (fun hc => ?_)
  · replace h := (if_pos hc).symm.trans h
    cases h
    exact x_vret hX dX0_takeOut_17 rfl
  · replace h := (if_neg hc).symm.trans h
    refine x_aloadn hX dX0_takeOut_11 rfl ?_
    refine x_iloadn hX dX0_takeOut_12 rfl ?_
    refine x_iloadn hX dX0_takeOut_13 rfl ?_
    obtain ⟨M_4, er_3, h⟩ := cl1_of h
    refine x_callVv (t := 0) (As := [vi r_1, vi x1]) (rest := []) hX dX0_takeOut_14 (c_X0_takeFrom (gk hX) (gl hX) h0 r_1 x1 M _ er_3) kX0_takeFrom vX0_takeFrom w_1200 h0 rfl rfl rfl rfl (Nat.le_of_ble_eq_true rfl) z0 ?_
    cases h
    exact x_vret hX dX0_takeOut_17 rfl
set_option maxRecDepth 100000 in
set_option maxHeartbeats 4000000 in
theorem c_X0_move {l : Launch} {G : Gx} (hG : GOK G) (hl : l.stackTraces = false) {th : Nat} (h0 : at_ G th 10 0) (x1 : Int) (x2 : Int) (M : Mem) (Mr : Mem) (h : f_X0_move th x1 x2 M = some Mr) : Cn l G mX0_move 3 [vr G th, vi x1, vi x2] M none Mr := by
  refine Cn_of2 (ls := [some (vr G th), some (vi x1), some (vi x2), none]) hG hl kX0_move rfl (Nat.le_of_ble_eq_true rfl) rfl rfl rfl rfl rfl (fun X eG el hX => ?_)
  subst eG; subst el
  unfold f_X0_move at h
  refine x_aloadn hX dX0_move_0 rfl ?_
  refine x_iloadn hX dX0_move_1 rfl ?_
  obtain ⟨r_1, er_1, h⟩ := cl1_of h
  refine x_callVi (t := 0) (As := [vi x1]) (rest := []) hX dX0_move_2 (c_X0_batchWith (gk hX) (gl hX) h0 x1 M _ er_1) kX0_batchWith vX0_batchWith w_1196 h0 rfl rfl rfl rfl (Nat.le_of_ble_eq_true rfl) z0 ?_
  refine x_istoren (ls' := [some (vr (xG X) th), some (vi x1), some (vi x2), some (vi r_1)]) hX dX0_move_5 rfl rfl rfl ?_
  refine x_aloadn hX dX0_move_6 rfl ?_
  refine x_getRj (j := th + 1) hX dX0_move_7 fl_X0_9 rfl h0 rfl ?_
  refine x_iloadn hX dX0_move_10 rfl ?_
  refine x_dup2 hX dX0_move_11 rfl rfl ?_
  obtain ⟨b_3, h⟩ := gi_of h
  refine x_iald hX dX0_move_12 (fo_0_1 (gk hX) h0) b_3 rfl ?_
  refine x_iconst hX dX0_move_13 ?_
  refine x_iloadn hX dX0_move_14 rfl ?_
  refine x_ishl hX dX0_move_15 ?_
  refine x_ior hX dX0_move_16 ?_
  obtain ⟨b_5, h⟩ := gi_of h
  obtain ⟨M_4, eM_4, h⟩ := bnd_of h
  refine x_iast hX dX0_move_17 (fo_0_1 (gk hX) h0) b_5 rfl (x_meq eM_4 ?_)
  refine x_iloadn hX dX0_move_18 rfl ?_
  refine x_iconst hX dX0_move_19 ?_
  refine x_icmp_eq (tgt := 34) hX dX0_move_20 (by decide) rfl cw_m1 (fun hc => ?_) (fun hc => ?_)
  · replace h := (if_pos hc).symm.trans h
    cases h
    exact x_vret hX dX0_move_34 rfl
  · replace h := (if_neg hc).symm.trans h
    refine x_iloadn hX dX0_move_23 rfl ?_
    refine x_iloadn hX dX0_move_24 rfl ?_
    refine x_icmp_eq (tgt := 34) hX dX0_move_25 (by decide) rfl rfl (fun hc => ?_) (fun hc => ?_)
    · replace h := (if_pos hc).symm.trans h
      cases h
      exact x_vret hX dX0_move_34 rfl
    · replace h := (if_neg hc).symm.trans h
      refine x_aloadn hX dX0_move_28 rfl ?_
      refine x_iloadn hX dX0_move_29 rfl ?_
      refine x_iloadn hX dX0_move_30 rfl ?_
      obtain ⟨M_7, er_6, h⟩ := cl1_of h
      refine x_callVv (t := 0) (As := [vi r_1, vi x1]) (rest := []) hX dX0_move_31 (c_X0_takeFrom (gk hX) (gl hX) h0 r_1 x1 M_4 _ er_6) kX0_takeFrom vX0_takeFrom w_1200 h0 rfl rfl rfl rfl (Nat.le_of_ble_eq_true rfl) z0 ?_
      cases h
      exact x_vret hX dX0_move_34 rfl
set_option maxRecDepth 100000 in
set_option maxHeartbeats 4000000 in
theorem c_X3_reset {l : Launch} {G : Gx} (hG : GOK G) (hl : l.stackTraces = false) {th : Nat} (h0 : at_ G th 13 0) (M : Mem) (Mr : Mem) (h : f_X3_reset th M = some Mr) : Cn l G mX3_reset 3 [vr G th] M none Mr := by
  refine Cn_of2 (ls := [some (vr G th)]) hG hl kX3_reset rfl (Nat.le_of_ble_eq_true rfl) rfl rfl rfl rfl rfl (fun X eG el hX => ?_)
  subst eG; subst el
  unfold f_X3_reset at h
  refine x_aloadn hX dX3_reset_0 rfl ?_
  refine x_iconst hX dX3_reset_1 ?_
  refine x_bipush hX dX3_reset_2 bp_10 ?_
  refine x_iconst hX dX3_reset_4 ?_
  obtain ⟨M_2, er_1, h⟩ := cl1_of h
  refine x_callVv (t := 3) (As := [vi 4, vi 10, vi 2]) (rest := []) hX dX3_reset_5 (c_X3_build (gk hX) (gl hX) h0 4 10 2 M _ er_1) kX3_build vX3_build w_356 h0 rfl rfl rfl rfl (Nat.le_of_ble_eq_true rfl) z0 ?_
  refine x_aloadn hX dX3_reset_8 rfl ?_
  refine x_iconst hX dX3_reset_9 ?_
  obtain ⟨M_3, eM_3, h⟩ := bnd_of h
  refine x_putI hX dX3_reset_10 fp_X3_22 rfl h0 (x_meq eM_3 ?_)
  refine x_aloadn hX dX3_reset_13 rfl ?_
  refine x_iconst hX dX3_reset_14 ?_
  obtain ⟨M_4, eM_4, h⟩ := bnd_of h
  refine x_putI hX dX3_reset_15 fp_X3_26 rfl h0 (x_meq eM_4 ?_)
  refine x_aloadn hX dX3_reset_18 rfl ?_
  refine x_iconst hX dX3_reset_19 ?_
  obtain ⟨M_5, eM_5, h⟩ := bnd_of h
  refine x_putI hX dX3_reset_20 fp_X3_29 rfl h0 (x_meq eM_5 ?_)
  refine x_aloadn hX dX3_reset_23 rfl ?_
  refine x_getRj (j := th + 2) hX dX3_reset_24 fl_X3_15 rfl h0 rfl ?_
  refine x_iconst hX dX3_reset_27 ?_
  refine x_iconst hX dX3_reset_28 ?_
  obtain ⟨M_6, eM_6, h⟩ := bnd_of h
  refine x_iast hX dX3_reset_29 (fo_3_8 (gk hX) h0) inc_0_2 ixc_0 (x_meq eM_6 ?_)
  refine x_aloadn hX dX3_reset_30 rfl ?_
  refine x_getRj (j := th + 2) hX dX3_reset_31 fl_X3_15 rfl h0 rfl ?_
  refine x_iconst hX dX3_reset_34 ?_
  refine x_iconst hX dX3_reset_35 ?_
  obtain ⟨M_7, eM_7, h⟩ := bnd_of h
  refine x_iast hX dX3_reset_36 (fo_3_8 (gk hX) h0) inc_1_2 ixc_1 (x_meq eM_7 ?_)
  cases h
  exact x_vret hX dX3_reset_37 rfl
set_option maxRecDepth 100000 in
set_option maxHeartbeats 4000000 in
theorem ts_X5_shortOfDone_4 {X : Cxt} (hX : Gd X RX5 cX5_shortOfDone 3 (some .int) 3) {th : Nat} (h0 : at_ (xG X) th 15 0) (M : Mem) (x1 : Int) (x2 : Int) {Q : State → Prop} (o : (Int × Int) ⊕ ((Int) ⊕ (Int))) (h : s_X5_shortOfDone_4 th M x1 x2 = some o) (hP : ∀ y, o = .inl y → V X 0 0 Q 4 [some (vr (xG X) th), some (vi y.1), some (vi y.2)] [] M) (hE : ∀ z, o = .inr (.inl z) → V X 0 0 Q 26 [none, some (vi z), none] [] M) (hR : ∀ q, o = .inr (.inr q) → Q = Qn X (some (vi q)) M) : V X 0 0 Q 4 [some (vr (xG X) th), some (vi x1), some (vi x2)] [] M := by
  unfold s_X5_shortOfDone_4 at h
  refine x_iloadn hX dX5_shortOfDone_4 rfl ?_
  refine x_aloadn hX dX5_shortOfDone_5 rfl ?_
  refine x_getI hX dX5_shortOfDone_6 fl_X5_30 rfl h0 ?_
  refine x_icmp_ge (tgt := 26) hX dX5_shortOfDone_9 (by decide) rfl rfl (fun hc => ?_) (fun hc => ?_)
  · replace h := (if_pos hc).symm.trans h
    refine x_iloadn hX dX5_shortOfDone_12 rfl ?_
    refine x_aloadn hX dX5_shortOfDone_13 rfl ?_
    refine x_iloadn hX dX5_shortOfDone_14 rfl ?_
    obtain ⟨r_1, er_1, h⟩ := cl1_of h
    refine x_callVi (t := 5) (As := [vi x2]) (rest := [vi x1]) hX dX5_shortOfDone_15 (c_X5_shortInAll (gk hX) (gl hX) h0 x2 M _ er_1) kX5_shortInAll vX5_shortInAll w_755 h0 rfl rfl rfl rfl (Nat.le_of_ble_eq_true rfl) z0 ?_
    refine x_iadd hX dX5_shortOfDone_18 ?_
    obtain ⟨x1_3, ex1_3, h⟩ := bnd_of h
    refine x_istoren (ls' := [some (vr (xG X) th), some (vi x1_3), some (vi x2)]) hX dX5_shortOfDone_19 rfl ex1_3 rfl ?_
    obtain ⟨x2_4, ex2_4, h⟩ := bnd_of h
    refine x_iinc (ls' := [some (vr (xG X) th), some (vi x1_3), some (vi x2_4)]) hX dX5_shortOfDone_20 rfl rfl ex2_4 rfl ?_
    refine x_goto (tgt := 4) hX dX5_shortOfDone_23 (by decide) ?_
    exact x_weak [true, true, true] rfl (hP (x1_3, x2_4) (Option.some.inj h).symm)
  · replace h := (if_neg hc).symm.trans h
    exact x_weak [false, true, false] rfl (hE x1 (Option.some.inj h).symm)
set_option maxRecDepth 100000 in
set_option maxHeartbeats 4000000 in
theorem c_X5_shortOfDone {l : Launch} {G : Gx} (hG : GOK G) (hl : l.stackTraces = false) {th : Nat} (h0 : at_ G th 15 0) (M : Mem) (r : Int) (h : f_X5_shortOfDone th M = some r) : Cn l G mX5_shortOfDone 3 [vr G th] M (some (vi r)) M := by
  refine Cn_of2 (ls := [some (vr G th), none, none]) hG hl kX5_shortOfDone rfl (Nat.le_of_ble_eq_true rfl) rfl rfl rfl rfl rfl (fun X eG el hX => ?_)
  subst eG; subst el
  unfold f_X5_shortOfDone at h
  refine x_iconst hX dX5_shortOfDone_0 ?_
  refine x_istoren (ls' := [some (vr (xG X) th), some (vi 0), none]) hX dX5_shortOfDone_1 rfl rfl rfl ?_
  refine x_iconst hX dX5_shortOfDone_2 ?_
  refine x_istoren (ls' := [some (vr (xG X) th), some (vi 0), some (vi 0)]) hX dX5_shortOfDone_3 rfl rfl rfl ?_
  refine x_weak (ls' := [some (vr (xG X) th), some (vi 0), some (vi 0)]) [true, true, true] rfl ?_
  refine lp_use (x := (0, 0)) (P := fun x => V X 0 0 (Qn X (some (vi r)) M) 4 [some (vr (xG X) th), some (vi x.1), some (vi x.2)] [] M) (PE := fun z_5 => V X 0 0 (Qn X (some (vi r)) M) 26 [none, some (vi z_5), none] [] M) (PR := fun q => (Qn X (some (vi r)) M) = Qn X (some (vi q)) M) h (fun x o hh hP hE hR => ts_X5_shortOfDone_4 hX h0 M x.1 x.2 o hh hP hE hR) (fun z_5 h => ?_) (fun q h => ?_)
  · show V X 0 0 (Qn X (some (vi r)) M) 26 [none, some (vi z_5), none] [] M
    refine x_iloadn hX dX5_shortOfDone_26 rfl ?_
    cases h
    exact x_iret hX dX5_shortOfDone_27 rfl
  · cases h; rfl
set_option maxRecDepth 100000 in
set_option maxHeartbeats 4000000 in
theorem c_X5_canBeRepeated {l : Launch} {G : Gx} (hG : GOK G) (hl : l.stackTraces = false) {th : Nat} (h0 : at_ G th 15 0) (x1 : Int) (M : Mem) (r : Int) (h : f_X5_canBeRepeated th x1 M = some r) : Cn l G mX5_canBeRepeated 3 [vr G th, vi x1] M (some (vi r)) M := by
  refine Cn_of2 (ls := [some (vr G th), some (vi x1)]) hG hl kX5_canBeRepeated rfl (Nat.le_of_ble_eq_true rfl) rfl rfl rfl rfl rfl (fun X eG el hX => ?_)
  subst eG; subst el
  unfold f_X5_canBeRepeated at h
  refine x_aloadn hX dX5_canBeRepeated_0 rfl ?_
  refine x_getI hX dX5_canBeRepeated_1 fl_X5_45 rfl h0 ?_
  refine x_iloadn hX dX5_canBeRepeated_4 rfl ?_
  refine x_ishr hX dX5_canBeRepeated_5 ?_
  refine x_iconst hX dX5_canBeRepeated_6 ?_
  refine x_iand hX dX5_canBeRepeated_7 ?_
  refine x_if_ne (tgt := 23) hX dX5_canBeRepeated_8 (by decide) rfl (fun hc => ?_) (fun hc => ?_)
  · replace h := (if_pos hc).symm.trans h
    refine x_aloadn hX dX5_canBeRepeated_11 rfl ?_
    refine x_iloadn hX dX5_canBeRepeated_12 rfl ?_
    obtain ⟨r_1, er_1, h⟩ := cl1_of h
    refine x_callVi (t := 5) (As := [vi x1]) (rest := []) hX dX5_canBeRepeated_13 (c_X5_shortInAll (gk hX) (gl hX) h0 x1 M _ er_1) kX5_shortInAll vX5_shortInAll w_755 h0 rfl rfl rfl rfl (Nat.le_of_ble_eq_true rfl) z0 ?_
    refine x_if_le (tgt := 23) hX dX5_canBeRepeated_16 (by decide) rfl (fun hc => ?_) (fun hc => ?_)
    · replace h := (if_pos hc).symm.trans h
      refine x_iconst hX dX5_canBeRepeated_19 ?_
      refine x_goto (tgt := 24) hX dX5_canBeRepeated_20 (by decide) ?_
      cases h
      exact x_zret hX dX5_canBeRepeated_24 (Or.inr cw_1) rfl
    · replace h := (if_neg hc).symm.trans h
      refine x_iconst hX dX5_canBeRepeated_23 ?_
      cases h
      exact x_zret hX dX5_canBeRepeated_24 (Or.inl cw_0) rfl
  · replace h := (if_neg hc).symm.trans h
    refine x_iconst hX dX5_canBeRepeated_23 ?_
    cases h
    exact x_zret hX dX5_canBeRepeated_24 (Or.inl cw_0) rfl
