-- written by wip/gen/emit.py: X12_addItem, X12_stock, X12_restock, X12_addOrder, X12_hasLine, X12_addsLine, X12_told, X12_isAlive, X12_weightOf, X12_aislesOf, X12_leaves, X12_addsBatch, X12_canBatch, X12_dissolve, X12_batchOrders
set_option maxRecDepth 100000 in
set_option maxHeartbeats 4000000 in
theorem tj_X12_addItem_81 {X : Cxt} (hX : Gd X RX12 cX12_addItem 6 (some .int) 3) (hs : SOK (xG X))   (x1 : Int) (x2 : Int) (x3 : Int) (x4 : Int) (y1 : Int) (M : Mem) (r : Int) (Mr : Mem) (h : j_X12_addItem_81 x1 x2 x3 x4 y1 M = some (r, Mr)) : V X 0 0 (Qn X (some (vi r)) Mr) 81 [some (vr (xG X) 139), some (vi x1), some (vi x2), some (vi x3), some (vi x4), none] [vi y1, vr (xG X) 139] M := by
  unfold j_X12_addItem_81 at h
  obtain ⟨M_3, eM_3, h⟩ := bnd_of h
  refine x_putI hX dX12_addItem_81 fp_X12_70 rfl (st139 hs) (x_meq eM_3 ?_)
  refine x_aloadn hX dX12_addItem_84 rfl ?_
  refine x_getI hX dX12_addItem_85 fl_X12_70 rfl (st139 hs) ?_
  refine x_if_le (tgt := 95) hX dX12_addItem_88 (by decide) rfl (fun hc => ?_) (fun hc => ?_)
  · replace h := (if_pos hc).symm.trans h
    refine x_iconst hX dX12_addItem_91 ?_
    refine x_goto (tgt := 104) hX dX12_addItem_92 (by decide) ?_
    cases h
    exact x_iret hX dX12_addItem_104 rfl
  · replace h := (if_neg hc).symm.trans h
    refine x_aloadn hX dX12_addItem_95 rfl ?_
    refine x_iloadn hX dX12_addItem_96 rfl ?_
    refine x_iloadn hX dX12_addItem_97 rfl ?_
    refine x_iloadn hX dX12_addItem_98 rfl ?_
    refine x_iload hX dX12_addItem_99 rfl ?_
    obtain ⟨r_4, M_5, er_4, h⟩ := cl2_of h
    refine x_callVi (t := 11) (As := [vi x1, vi x2, vi x3, vi x4]) (rest := []) hX dX12_addItem_101 (c_X12_adds (gk hX) (gl hX) hs x1 x2 x3 x4 M_3 _ _ er_4) kX12_adds vX12_adds w_1754 (st139 hs) rfl rfl rfl rfl (Nat.le_of_ble_eq_true rfl) z0 ?_
    cases h
    exact x_iret hX dX12_addItem_104 rfl
set_option maxRecDepth 100000 in
set_option maxHeartbeats 4000000 in
theorem tj_X12_addItem_61 {X : Cxt} (hX : Gd X RX12 cX12_addItem 6 (some .int) 3) (hs : SOK (xG X))   (x1 : Int) (x2 : Int) (x3 : Int) (x4 : Int) (M : Mem) (r : Int) (Mr : Mem) (h : j_X12_addItem_61 x1 x2 x3 x4 M = some (r, Mr)) : V X 0 0 (Qn X (some (vi r)) Mr) 61 [some (vr (xG X) 139), some (vi x1), some (vi x2), some (vi x3), some (vi x4), none] [vr (xG X) 139] M := by
  unfold j_X12_addItem_61 at h
  refine x_iconst hX dX12_addItem_61 ?_
  refine x_goto (tgt := 81) hX dX12_addItem_62 (by decide) ?_
  exact x_weak [true, true, true, true, true, false] rfl (tj_X12_addItem_81 hX hs x1 x2 x3 x4 2 M r Mr h)
set_option maxRecDepth 100000 in
set_option maxHeartbeats 4000000 in
theorem tj_X12_addItem_27 {X : Cxt} (hX : Gd X RX12 cX12_addItem 6 (some .int) 3) (hs : SOK (xG X))   (x1 : Int) (x2 : Int) (x3 : Int) (x4 : Int) (y0 : Int) (M : Mem) (r : Int) (Mr : Mem) (h : j_X12_addItem_27 x1 x2 x3 x4 y0 M = some (r, Mr)) : V X 0 0 (Qn X (some (vi r)) Mr) 27 [some (vr (xG X) 139), some (vi x1), some (vi x2), some (vi x3), some (vi x4), none] [vi y0] M := by
  unfold j_X12_addItem_27 at h
  refine x_istore (ls' := [some (vr (xG X) 139), some (vi x1), some (vi x2), some (vi x3), some (vi x4), some (vi y0)]) hX dX12_addItem_27 rfl rfl rfl ?_
  refine x_aloadn hX dX12_addItem_29 rfl ?_
  refine x_iload hX dX12_addItem_30 rfl ?_
  refine x_if_ne (tgt := 39) hX dX12_addItem_32 (by decide) rfl (fun hc => ?_) (fun hc => ?_)
  · replace h := (if_pos hc).symm.trans h
    refine x_iconst hX dX12_addItem_35 ?_
    refine x_goto (tgt := 81) hX dX12_addItem_36 (by decide) ?_
    exact x_weak [true, true, true, true, true, false] rfl (tj_X12_addItem_81 hX hs x1 x2 x3 x4 1 M r Mr h)
  · replace h := (if_neg hc).symm.trans h
    refine x_iloadn hX dX12_addItem_39 rfl ?_
    refine x_iconst hX dX12_addItem_40 ?_
    refine x_bipush hX dX12_addItem_41 bp_50 ?_
    obtain ⟨r_6, er_6, h⟩ := cl1_of h
    refine x_callSi (As := [vi x3, vi 1, vi 50]) (rest := [vr (xG X) 139]) hX dX12_addItem_43 (c_X12_in (gk hX) (gl hX) x3 1 50 M _ er_6) kX12_in sX12_in w_1735 rfl rfl rfl (Nat.le_of_ble_eq_true rfl) z0 ?_
    refine x_if_eq (tgt := 61) hX dX12_addItem_46 (by decide) rfl (fun hc => ?_) (fun hc => ?_)
    · replace h := (if_pos hc).symm.trans h
      exact x_weak [true, true, true, true, true, false] rfl (tj_X12_addItem_61 hX hs x1 x2 x3 x4 M r Mr h)
    · replace h := (if_neg hc).symm.trans h
      refine x_iload hX dX12_addItem_49 rfl ?_
      refine x_iconst hX dX12_addItem_51 ?_
      refine x_sipush hX dX12_addItem_52 sp_999 ?_
      obtain ⟨r_8, er_8, h⟩ := cl1_of h
      refine x_callSi (As := [vi x4, vi 0, vi 999]) (rest := [vr (xG X) 139]) hX dX12_addItem_55 (c_X12_in (gk hX) (gl hX) x4 0 999 M _ er_8) kX12_in sX12_in w_1735 rfl rfl rfl (Nat.le_of_ble_eq_true rfl) z0 ?_
      refine x_if_ne (tgt := 65) hX dX12_addItem_58 (by decide) rfl (fun hc => ?_) (fun hc => ?_)
      · replace h := (if_pos hc).symm.trans h
        exact x_weak [true, true, true, true, true, false] rfl (tj_X12_addItem_61 hX hs x1 x2 x3 x4 M r Mr h)
      · replace h := (if_neg hc).symm.trans h
        refine x_aloadn hX dX12_addItem_65 rfl ?_
        refine x_getRj (j := 140) hX dX12_addItem_66 fl_X12_7 rfl (st139 hs) rfl ?_
        refine x_iconst hX dX12_addItem_69 ?_
        refine x_iald hX dX12_addItem_70 (st140 hs) inc_3_469 ixc_3 ?_
        refine x_bipush hX dX12_addItem_71 bp_24 ?_
        refine x_icmp_ne (tgt := 80) hX dX12_addItem_73 (by decide) rfl cw_24 (fun hc => ?_) (fun hc => ?_)
        · replace h := (if_pos hc).symm.trans h
          refine x_iconst hX dX12_addItem_76 ?_
          refine x_goto (tgt := 81) hX dX12_addItem_77 (by decide) ?_
          exact x_weak [true, true, true, true, true, false] rfl (tj_X12_addItem_81 hX hs x1 x2 x3 x4 3 M r Mr h)
        · replace h := (if_neg hc).symm.trans h
          refine x_iconst hX dX12_addItem_80 ?_
          exact x_weak [true, true, true, true, true, false] rfl (tj_X12_addItem_81 hX hs x1 x2 x3 x4 0 M r Mr h)
set_option maxRecDepth 100000 in
set_option maxHeartbeats 4000000 in
theorem tj_X12_addItem_26 {X : Cxt} (hX : Gd X RX12 cX12_addItem 6 (some .int) 3) (hs : SOK (xG X))   (x1 : Int) (x2 : Int) (x3 : Int) (x4 : Int) (M : Mem) (r : Int) (Mr : Mem) (h : j_X12_addItem_26 x1 x2 x3 x4 M = some (r, Mr)) : V X 0 0 (Qn X (some (vi r)) Mr) 26 [some (vr (xG X) 139), some (vi x1), some (vi x2), some (vi x3), some (vi x4), none] [] M := by
  unfold j_X12_addItem_26 at h
  refine x_iconst hX dX12_addItem_26 ?_
  exact x_weak [true, true, true, true, true, false] rfl (tj_X12_addItem_27 hX hs x1 x2 x3 x4 0 M r Mr h)
set_option maxRecDepth 100000 in
set_option maxHeartbeats 4000000 in
theorem c_X12_addItem {l : Launch} {G : Gx} (hG : GOK G) (hl : l.stackTraces = false) (hs : SOK G)  (x1 : Int) (x2 : Int) (x3 : Int) (x4 : Int) (M : Mem) (r : Int) (Mr : Mem) (h : f_X12_addItem x1 x2 x3 x4 M = some (r, Mr)) : Cn l G mX12_addItem 3 [vr G 139, vi x1, vi x2, vi x3, vi x4] M (some (vi r)) Mr := by
  refine Cn_of2 (ls := [some (vr G 139), some (vi x1), some (vi x2), some (vi x3), some (vi x4), none]) hG hl kX12_addItem rfl (Nat.le_of_ble_eq_true rfl) rfl rfl rfl rfl rfl (fun X eG el hX => ?_)
  subst eG; subst el
  unfold f_X12_addItem at h
  refine x_aloadn hX dX12_addItem_0 rfl ?_
  refine x_iloadn hX dX12_addItem_1 rfl ?_
  obtain ⟨r_1, er_1, h⟩ := cl1_of h
  refine x_callVi (t := 11) (As := [vi x1]) (rest := []) hX dX12_addItem_2 (c_X12_isAisle (gk hX) (gl hX) hs x1 M _ er_1) kX12_isAisle vX12_isAisle w_1750 (st139 hs) rfl rfl rfl rfl (Nat.le_of_ble_eq_true rfl) z0 ?_
  refine x_if_eq (tgt := 26) hX dX12_addItem_5 (by decide) rfl (fun hc => ?_) (fun hc => ?_)
  · replace h := (if_pos hc).symm.trans h
    exact x_weak [true, true, true, true, true, false] rfl (tj_X12_addItem_26 hX hs x1 x2 x3 x4 M r Mr h)
  · replace h := (if_neg hc).symm.trans h
    refine x_iloadn hX dX12_addItem_8 rfl ?_
    refine x_iconst hX dX12_addItem_9 ?_
    refine x_aloadn hX dX12_addItem_10 rfl ?_
    refine x_getRj (j := 140) hX dX12_addItem_11 fl_X12_7 rfl (st139 hs) rfl ?_
    refine x_iconst hX dX12_addItem_14 ?_
    refine x_iald hX dX12_addItem_15 (st140 hs) inc_1_469 ixc_1 ?_
    obtain ⟨r_10, er_10, h⟩ := cl1_of h
    refine x_callSi (As := [vi x2, vi 1, vi (M 140 1)]) (rest := []) hX dX12_addItem_16 (c_X12_in (gk hX) (gl hX) x2 1 (M 140 1) M _ er_10) kX12_in sX12_in w_1735 rfl rfl rfl (Nat.le_of_ble_eq_true rfl) z0 ?_
    refine x_if_eq (tgt := 26) hX dX12_addItem_19 (by decide) rfl (fun hc => ?_) (fun hc => ?_)
    · replace h := (if_pos hc).symm.trans h
      exact x_weak [true, true, true, true, true, false] rfl (tj_X12_addItem_26 hX hs x1 x2 x3 x4 M r Mr h)
    · replace h := (if_neg hc).symm.trans h
      refine x_iconst hX dX12_addItem_22 ?_
      refine x_goto (tgt := 27) hX dX12_addItem_23 (by decide) ?_
      exact x_weak [true, true, true, true, true, false] rfl (tj_X12_addItem_27 hX hs x1 x2 x3 x4 1 M r Mr h)
set_option maxRecDepth 100000 in
set_option maxHeartbeats 4000000 in
theorem tj_X12_stock_14 {X : Cxt} (hX : Gd X RX12 cX12_stock 2 (some .int) 3) (hs : SOK (xG X))   (x1 : Int) (y1 : Int) (M : Mem) (r : Int) (Mr : Mem) (h : j_X12_stock_14 x1 y1 M = some (r, Mr)) : V X 0 0 (Qn X (some (vi r)) Mr) 14 [some (vr (xG X) 139), some (vi x1)] [vi y1, vr (xG X) 139] M := by
  unfold j_X12_stock_14 at h
  obtain ⟨M_3, eM_3, h⟩ := bnd_of h
  refine x_putI hX dX12_stock_14 fp_X12_70 rfl (st139 hs) (x_meq eM_3 ?_)
  refine x_aloadn hX dX12_stock_17 rfl ?_
  refine x_getI hX dX12_stock_18 fl_X12_70 rfl (st139 hs) ?_
  refine x_if_le (tgt := 28) hX dX12_stock_21 (by decide) rfl (fun hc => ?_) (fun hc => ?_)
  · replace h := (if_pos hc).symm.trans h
    refine x_iconst hX dX12_stock_24 ?_
    refine x_goto (tgt := 34) hX dX12_stock_25 (by decide) ?_
    cases h
    exact x_iret hX dX12_stock_34 rfl
  · replace h := (if_neg hc).symm.trans h
    refine x_aloadn hX dX12_stock_28 rfl ?_
    refine x_iloadn hX dX12_stock_29 rfl ?_
    refine x_iconst hX dX12_stock_30 ?_
    obtain ⟨r_4, er_4, h⟩ := cl1_of h
    refine x_callVi (t := 11) (As := [vi x1, vi 3]) (rest := []) hX dX12_stock_31 (c_X12_ofItem (gk hX) (gl hX) hs x1 3 M_3 _ er_4) kX12_ofItem vX12_ofItem w_1770 (st139 hs) rfl rfl rfl rfl (Nat.le_of_ble_eq_true rfl) z0 ?_
    cases h
    exact x_iret hX dX12_stock_34 rfl
set_option maxRecDepth 100000 in
set_option maxHeartbeats 4000000 in
theorem c_X12_stock {l : Launch} {G : Gx} (hG : GOK G) (hl : l.stackTraces = false) (hs : SOK G)  (x1 : Int) (M : Mem) (r : Int) (Mr : Mem) (h : f_X12_stock x1 M = some (r, Mr)) : Cn l G mX12_stock 3 [vr G 139, vi x1] M (some (vi r)) Mr := by
  refine Cn_of2 (ls := [some (vr G 139), some (vi x1)]) hG hl kX12_stock rfl (Nat.le_of_ble_eq_true rfl) rfl rfl rfl rfl rfl (fun X eG el hX => ?_)
  subst eG; subst el
  unfold f_X12_stock at h
  refine x_aloadn hX dX12_stock_0 rfl ?_
  refine x_aloadn hX dX12_stock_1 rfl ?_
  refine x_iloadn hX dX12_stock_2 rfl ?_
  obtain ⟨r_1, er_1, h⟩ := cl1_of h
  refine x_callVi (t := 11) (As := [vi x1]) (rest := [vr (xG X) 139]) hX dX12_stock_3 (c_X12_isItem (gk hX) (gl hX) hs x1 M _ er_1) kX12_isItem vX12_isItem w_1766 (st139 hs) rfl rfl rfl rfl (Nat.le_of_ble_eq_true rfl) z0 ?_
  refine x_if_eq (tgt := 13) hX dX12_stock_6 (by decide) rfl (fun hc => ?_) (fun hc => ?_)
  · replace h := (if_pos hc).symm.trans h
    refine x_iconst hX dX12_stock_13 ?_
    exact x_weak [true, true] rfl (tj_X12_stock_14 hX hs x1 1 M r Mr h)
  · replace h := (if_neg hc).symm.trans h
    refine x_iconst hX dX12_stock_9 ?_
    refine x_goto (tgt := 14) hX dX12_stock_10 (by decide) ?_
    exact x_weak [true, true] rfl (tj_X12_stock_14 hX hs x1 0 M r Mr h)
set_option maxRecDepth 100000 in
set_option maxHeartbeats 4000000 in
theorem tj_X12_restock_43 {X : Cxt} (hX : Gd X RX12 cX12_restock 3 (some .int) 3) (hs : SOK (xG X))   (x1 : Int) (x2 : Int) (y1 : Int) (M : Mem) (r : Int) (Mr : Mem) (h : j_X12_restock_43 x1 x2 y1 M = some (r, Mr)) : V X 0 0 (Qn X (some (vi r)) Mr) 43 [some (vr (xG X) 139), some (vi x1), some (vi x2)] [vi y1, vr (xG X) 139] M := by
  unfold j_X12_restock_43 at h
  obtain ⟨M_3, eM_3, h⟩ := bnd_of h
  refine x_putI hX dX12_restock_43 fp_X12_70 rfl (st139 hs) (x_meq eM_3 ?_)
  refine x_aloadn hX dX12_restock_46 rfl ?_
  refine x_getI hX dX12_restock_47 fl_X12_70 rfl (st139 hs) ?_
  refine x_if_le (tgt := 55) hX dX12_restock_50 (by decide) rfl (fun hc => ?_) (fun hc => ?_)
  · replace h := (if_pos hc).symm.trans h
    refine x_iconst hX dX12_restock_53 ?_
    cases h
    exact x_iret hX dX12_restock_54 rfl
  · replace h := (if_neg hc).symm.trans h
    refine x_aloadn hX dX12_restock_55 rfl ?_
    refine x_getRj (j := 140) hX dX12_restock_56 fl_X12_7 rfl (st139 hs) rfl ?_
    refine x_bipush hX dX12_restock_59 bp_13 ?_
    refine x_iconst hX dX12_restock_61 ?_
    refine x_iloadn hX dX12_restock_62 rfl ?_
    refine x_imul hX dX12_restock_63 ?_
    refine x_iadd hX dX12_restock_64 ?_
    refine x_iconst hX dX12_restock_65 ?_
    refine x_iadd hX dX12_restock_66 ?_
    refine x_dup2 hX dX12_restock_67 rfl rfl ?_
    obtain ⟨b_4, h⟩ := gi_of h
    refine x_iald hX dX12_restock_68 (st140 hs) b_4 rfl ?_
    refine x_iloadn hX dX12_restock_69 rfl ?_
    refine x_iadd hX dX12_restock_70 ?_
    obtain ⟨b_6, h⟩ := gi_of h
    obtain ⟨M_5, eM_5, h⟩ := bnd_of h
    refine x_iast hX dX12_restock_71 (st140 hs) b_6 rfl (x_meq eM_5 ?_)
    refine x_aloadn hX dX12_restock_72 rfl ?_
    refine x_iloadn hX dX12_restock_73 rfl ?_
    refine x_iconst hX dX12_restock_74 ?_
    obtain ⟨r_7, er_7, h⟩ := cl1_of h
    refine x_callVi (t := 11) (As := [vi x1, vi 3]) (rest := []) hX dX12_restock_75 (c_X12_ofItem (gk hX) (gl hX) hs x1 3 M_5 _ er_7) kX12_ofItem vX12_ofItem w_1770 (st139 hs) rfl rfl rfl rfl (Nat.le_of_ble_eq_true rfl) z0 ?_
    cases h
    exact x_iret hX dX12_restock_78 rfl
set_option maxRecDepth 100000 in
set_option maxHeartbeats 4000000 in
theorem tj_X12_restock_38 {X : Cxt} (hX : Gd X RX12 cX12_restock 3 (some .int) 3) (hs : SOK (xG X))   (x1 : Int) (x2 : Int) (M : Mem) (r : Int) (Mr : Mem) (h : j_X12_restock_38 x1 x2 M = some (r, Mr)) : V X 0 0 (Qn X (some (vi r)) Mr) 38 [some (vr (xG X) 139), some (vi x1), some (vi x2)] [vr (xG X) 139] M := by
  unfold j_X12_restock_38 at h
  refine x_iconst hX dX12_restock_38 ?_
  refine x_goto (tgt := 43) hX dX12_restock_39 (by decide) ?_
  exact x_weak [true, true, true] rfl (tj_X12_restock_43 hX hs x1 x2 2 M r Mr h)
set_option maxRecDepth 100000 in
set_option maxHeartbeats 4000000 in
theorem c_X12_restock {l : Launch} {G : Gx} (hG : GOK G) (hl : l.stackTraces = false) (hs : SOK G)  (x1 : Int) (x2 : Int) (M : Mem) (r : Int) (Mr : Mem) (h : f_X12_restock x1 x2 M = some (r, Mr)) : Cn l G mX12_restock 3 [vr G 139, vi x1, vi x2] M (some (vi r)) Mr := by
  refine Cn_of2 (ls := [some (vr G 139), some (vi x1), some (vi x2)]) hG hl kX12_restock rfl (Nat.le_of_ble_eq_true rfl) rfl rfl rfl rfl rfl (fun X eG el hX => ?_)
  subst eG; subst el
  unfold f_X12_restock at h
  refine x_aloadn hX dX12_restock_0 rfl ?_
  refine x_aloadn hX dX12_restock_1 rfl ?_
  refine x_iloadn hX dX12_restock_2 rfl ?_
  obtain ⟨r_1, er_1, h⟩ := cl1_of h
  refine x_callVi (t := 11) (As := [vi x1]) (rest := [vr (xG X) 139]) hX dX12_restock_3 (c_X12_isItem (gk hX) (gl hX) hs x1 M _ er_1) kX12_isItem vX12_isItem w_1766 (st139 hs) rfl rfl rfl rfl (Nat.le_of_ble_eq_true rfl) z0 ?_
  refine x_if_ne (tgt := 13) hX dX12_restock_6 (by decide) rfl (fun hc => ?_) (fun hc => ?_)
  · replace h := (if_pos hc).symm.trans h
    refine x_iconst hX dX12_restock_9 ?_
    refine x_goto (tgt := 43) hX dX12_restock_10 (by decide) ?_
    exact x_weak [true, true, true] rfl (tj_X12_restock_43 hX hs x1 x2 1 M r Mr h)
  · replace h := (if_neg hc).symm.trans h
    refine x_iloadn hX dX12_restock_13 rfl ?_
    refine x_iconst hX dX12_restock_14 ?_
    refine x_sipush hX dX12_restock_15 sp_999 ?_
    obtain ⟨r_9, er_9, h⟩ := cl1_of h
    refine x_callSi (As := [vi x2, vi 1, vi 999]) (rest := [vr (xG X) 139]) hX dX12_restock_18 (c_X12_in (gk hX) (gl hX) x2 1 999 M _ er_9) kX12_in sX12_in w_1735 rfl rfl rfl (Nat.le_of_ble_eq_true rfl) z0 ?_
    refine x_if_eq (tgt := 38) hX dX12_restock_21 (by decide) rfl (fun hc => ?_) (fun hc => ?_)
    · replace h := (if_pos hc).symm.trans h
      exact x_weak [true, true, true] rfl (tj_X12_restock_38 hX hs x1 x2 M r Mr h)
    · replace h := (if_neg hc).symm.trans h
      refine x_aloadn hX dX12_restock_24 rfl ?_
      refine x_iloadn hX dX12_restock_25 rfl ?_
      refine x_iconst hX dX12_restock_26 ?_
      obtain ⟨r_11, er_11, h⟩ := cl1_of h
      refine x_callVi (t := 11) (As := [vi x1, vi 3]) (rest := [vr (xG X) 139]) hX dX12_restock_27 (c_X12_ofItem (gk hX) (gl hX) hs x1 3 M _ er_11) kX12_ofItem vX12_ofItem w_1770 (st139 hs) rfl rfl rfl rfl (Nat.le_of_ble_eq_true rfl) z0 ?_
      refine x_iloadn hX dX12_restock_30 rfl ?_
      refine x_iadd hX dX12_restock_31 ?_
      refine x_sipush hX dX12_restock_32 sp_999 ?_
      refine x_icmp_le (tgt := 42) hX dX12_restock_35 (by decide) rfl cw_999 (fun hc => ?_) (fun hc => ?_)
      · replace h := (if_pos hc).symm.trans h
        exact x_weak [true, true, true] rfl (tj_X12_restock_38 hX hs x1 x2 M r Mr h)
      · replace h := (if_neg hc).symm.trans h
        refine x_iconst hX dX12_restock_42 ?_
        exact x_weak [true, true, true] rfl (tj_X12_restock_43 hX hs x1 x2 0 M r Mr h)
set_option maxRecDepth 100000 in
set_option maxHeartbeats 4000000 in
theorem tj_X12_addOrder_32 {X : Cxt} (hX : Gd X RX12 cX12_addOrder 2 (some .int) 3) (hs : SOK (xG X))   (x1 : Int) (y1 : Int) (M : Mem) (r : Int) (Mr : Mem) (h : j_X12_addOrder_32 x1 y1 M = some (r, Mr)) : V X 0 0 (Qn X (some (vi r)) Mr) 32 [some (vr (xG X) 139), some (vi x1)] [vi y1, vr (xG X) 139] M := by
  unfold j_X12_addOrder_32 at h
  obtain ⟨M_3, eM_3, h⟩ := bnd_of h
  refine x_putI hX dX12_addOrder_32 fp_X12_70 rfl (st139 hs) (x_meq eM_3 ?_)
  refine x_aloadn hX dX12_addOrder_35 rfl ?_
  refine x_getI hX dX12_addOrder_36 fl_X12_70 rfl (st139 hs) ?_
  refine x_if_le (tgt := 46) hX dX12_addOrder_39 (by decide) rfl (fun hc => ?_) (fun hc => ?_)
  · replace h := (if_pos hc).symm.trans h
    refine x_iconst hX dX12_addOrder_42 ?_
    refine x_goto (tgt := 51) hX dX12_addOrder_43 (by decide) ?_
    cases h
    exact x_iret hX dX12_addOrder_51 rfl
  · replace h := (if_neg hc).symm.trans h
    refine x_aloadn hX dX12_addOrder_46 rfl ?_
    refine x_iloadn hX dX12_addOrder_47 rfl ?_
    obtain ⟨r_4, M_5, er_4, h⟩ := cl2_of h
    refine x_callVi (t := 11) (As := [vi x1]) (rest := []) hX dX12_addOrder_48 (c_X12_opensOrder (gk hX) (gl hX) hs x1 M_3 _ _ er_4) kX12_opensOrder vX12_opensOrder w_1782 (st139 hs) rfl rfl rfl rfl (Nat.le_of_ble_eq_true rfl) z0 ?_
    cases h
    exact x_iret hX dX12_addOrder_51 rfl
set_option maxRecDepth 100000 in
set_option maxHeartbeats 4000000 in
theorem c_X12_addOrder {l : Launch} {G : Gx} (hG : GOK G) (hl : l.stackTraces = false) (hs : SOK G)  (x1 : Int) (M : Mem) (r : Int) (Mr : Mem) (h : f_X12_addOrder x1 M = some (r, Mr)) : Cn l G mX12_addOrder 3 [vr G 139, vi x1] M (some (vi r)) Mr := by
  refine Cn_of2 (ls := [some (vr G 139), some (vi x1)]) hG hl kX12_addOrder rfl (Nat.le_of_ble_eq_true rfl) rfl rfl rfl rfl rfl (fun X eG el hX => ?_)
  subst eG; subst el
  unfold f_X12_addOrder at h
  refine x_aloadn hX dX12_addOrder_0 rfl ?_
  refine x_iloadn hX dX12_addOrder_1 rfl ?_
  refine x_iconst hX dX12_addOrder_2 ?_
  refine x_sipush hX dX12_addOrder_3 sp_9999 ?_
  obtain ⟨r_1, er_1, h⟩ := cl1_of h
  refine x_callSi (As := [vi x1, vi 0, vi 9999]) (rest := [vr (xG X) 139]) hX dX12_addOrder_6 (c_X12_in (gk hX) (gl hX) x1 0 9999 M _ er_1) kX12_in sX12_in w_1735 rfl rfl rfl (Nat.le_of_ble_eq_true rfl) z0 ?_
  refine x_if_ne (tgt := 16) hX dX12_addOrder_9 (by decide) rfl (fun hc => ?_) (fun hc => ?_)
  · replace h := (if_pos hc).symm.trans h
    refine x_iconst hX dX12_addOrder_12 ?_
    refine x_goto (tgt := 32) hX dX12_addOrder_13 (by decide) ?_
    exact x_weak [true, true] rfl (tj_X12_addOrder_32 hX hs x1 1 M r Mr h)
  · replace h := (if_neg hc).symm.trans h
    refine x_aloadn hX dX12_addOrder_16 rfl ?_
    refine x_getRj (j := 140) hX dX12_addOrder_17 fl_X12_7 rfl (st139 hs) rfl ?_
    refine x_iconst hX dX12_addOrder_20 ?_
    refine x_iald hX dX12_addOrder_21 (st140 hs) inc_4_469 ixc_4 ?_
    refine x_bipush hX dX12_addOrder_22 bp_16 ?_
    refine x_icmp_ne (tgt := 31) hX dX12_addOrder_24 (by decide) rfl cw_16 (fun hc => ?_) (fun hc => ?_)
    · replace h := (if_pos hc).symm.trans h
      refine x_iconst hX dX12_addOrder_27 ?_
      refine x_goto (tgt := 32) hX dX12_addOrder_28 (by decide) ?_
      exact x_weak [true, true] rfl (tj_X12_addOrder_32 hX hs x1 2 M r Mr h)
    · replace h := (if_neg hc).symm.trans h
      refine x_iconst hX dX12_addOrder_31 ?_
      exact x_weak [true, true] rfl (tj_X12_addOrder_32 hX hs x1 0 M r Mr h)
set_option maxRecDepth 100000 in
set_option maxHeartbeats 4000000 in
theorem tj_X12_hasLine_40_5 {X : Cxt} (hX : Gd X RX12 cX12_hasLine 5 (some .boolean) 3) (hs : SOK (xG X))   (x1 : Int) (x2 : Int) (x4 : Int) (y0 : Int) (M : Mem) {Q : State → Prop} (o : (Int × Int) ⊕ ((Int) ⊕ (Int))) (h : j_X12_hasLine_40_5 x1 x2 x4 y0 M = some o) (hP : ∀ y, o = .inl y → V X 0 0 Q 5 [some (vr (xG X) 139), some (vi x1), some (vi x2), some (vi y.1), some (vi y.2)] [] M) (hE : ∀ z, o = .inr (.inl z) → V X 0 0 Q 47 [none, none, none, some (vi z), none] [] M) (hR : ∀ q, o = .inr (.inr q) → Q = Qn X (some (vi q)) M) : V X 0 0 Q 40 [some (vr (xG X) 139), some (vi x1), some (vi x2), none, some (vi x4)] [vi y0] M := by
  unfold j_X12_hasLine_40_5 at h
  refine x_istoren (ls' := [some (vr (xG X) 139), some (vi x1), some (vi x2), some (vi y0), some (vi x4)]) hX dX12_hasLine_40 rfl rfl rfl ?_
  obtain ⟨x4_6, ex4_6, h⟩ := bnd_of h
  refine x_iinc (ls' := [some (vr (xG X) 139), some (vi x1), some (vi x2), some (vi y0), some (vi x4_6)]) hX dX12_hasLine_41 rfl rfl ex4_6 rfl ?_
  refine x_goto (tgt := 5) hX dX12_hasLine_44 (by decide) ?_
  exact x_weak [true, true, true, true, true] rfl (hP (y0, x4_6) (Option.some.inj h).symm)
set_option maxRecDepth 100000 in
set_option maxHeartbeats 4000000 in
theorem tj_X12_hasLine_35_5 {X : Cxt} (hX : Gd X RX12 cX12_hasLine 5 (some .boolean) 3) (hs : SOK (xG X))   (x1 : Int) (x2 : Int) (x4 : Int) (M : Mem) {Q : State → Prop} (o : (Int × Int) ⊕ ((Int) ⊕ (Int))) (h : j_X12_hasLine_35_5 x1 x2 x4 M = some o) (hP : ∀ y, o = .inl y → V X 0 0 Q 5 [some (vr (xG X) 139), some (vi x1), some (vi x2), some (vi y.1), some (vi y.2)] [] M) (hE : ∀ z, o = .inr (.inl z) → V X 0 0 Q 47 [none, none, none, some (vi z), none] [] M) (hR : ∀ q, o = .inr (.inr q) → Q = Qn X (some (vi q)) M) : V X 0 0 Q 35 [some (vr (xG X) 139), some (vi x1), some (vi x2), none, some (vi x4)] [] M := by
  unfold j_X12_hasLine_35_5 at h
  refine x_iconst hX dX12_hasLine_35 ?_
  refine x_goto (tgt := 40) hX dX12_hasLine_36 (by decide) ?_
  exact x_weak [true, true, true, false, true] rfl (tj_X12_hasLine_40_5 hX hs x1 x2 x4 1 M o h hP hE hR)
set_option maxRecDepth 100000 in
set_option maxHeartbeats 4000000 in
theorem ts_X12_hasLine_5 {X : Cxt} (hX : Gd X RX12 cX12_hasLine 5 (some .boolean) 3) (hs : SOK (xG X))  (x1 : Int) (x2 : Int) (M : Mem) (x3 : Int) (x4 : Int) {Q : State → Prop} (o : (Int × Int) ⊕ ((Int) ⊕ (Int))) (h : s_X12_hasLine_5 x1 x2 M x3 x4 = some o) (hP : ∀ y, o = .inl y → V X 0 0 Q 5 [some (vr (xG X) 139), some (vi x1), some (vi x2), some (vi y.1), some (vi y.2)] [] M) (hE : ∀ z, o = .inr (.inl z) → V X 0 0 Q 47 [none, none, none, some (vi z), none] [] M) (hR : ∀ q, o = .inr (.inr q) → Q = Qn X (some (vi q)) M) : V X 0 0 Q 5 [some (vr (xG X) 139), some (vi x1), some (vi x2), some (vi x3), some (vi x4)] [] M := by
  unfold s_X12_hasLine_5 at h
  refine x_iload hX dX12_hasLine_5 rfl ?_
  refine x_aloadn hX dX12_hasLine_7 rfl ?_
  refine x_iloadn hX dX12_hasLine_8 rfl ?_
  refine x_iconst hX dX12_hasLine_9 ?_
  obtain ⟨r_1, er_1, h⟩ := cl1_of h
  refine x_callVi (t := 11) (As := [vi x1, vi 2]) (rest := [vi x4]) hX dX12_hasLine_10 (c_X12_ofOrder (gk hX) (gl hX) hs x1 2 M _ er_1) kX12_ofOrder vX12_ofOrder w_1797 (st139 hs) rfl rfl rfl rfl (Nat.le_of_ble_eq_true rfl) z0 ?_
  refine x_icmp_ge (tgt := 47) hX dX12_hasLine_13 (by decide) rfl rfl (fun hc => ?_) (fun hc => ?_)
  · replace h := (if_pos hc).symm.trans h
    refine x_iloadn hX dX12_hasLine_16 rfl ?_
    refine x_if_ne (tgt := 35) hX dX12_hasLine_17 (by decide) rfl (fun hc => ?_) (fun hc => ?_)
    · replace h := (if_pos hc).symm.trans h
      refine x_aloadn hX dX12_hasLine_20 rfl ?_
      refine x_getRj (j := 140) hX dX12_hasLine_21 fl_X12_7 rfl (st139 hs) rfl ?_
      refine x_iloadn hX dX12_hasLine_24 rfl ?_
      refine x_iload hX dX12_hasLine_25 rfl ?_
      obtain ⟨r_3, er_3, h⟩ := cl1_of h
      refine x_callSi (As := [vi x1, vi x4]) (rest := [vr (xG X) 140]) hX dX12_hasLine_27 (c_X12_lineAt (gk hX) (gl hX) x1 x4 M _ er_3) kX12_lineAt sX12_lineAt w_1805 rfl rfl rfl (Nat.le_of_ble_eq_true rfl) z0 ?_
      obtain ⟨b_5, h⟩ := gi_of h
      refine x_iald hX dX12_hasLine_30 (st140 hs) b_5 rfl ?_
      refine x_iloadn hX dX12_hasLine_31 rfl ?_
      refine x_icmp_ne (tgt := 39) hX dX12_hasLine_32 (by decide) rfl rfl (fun hc => ?_) (fun hc => ?_)
      · replace h := (if_pos hc).symm.trans h
        exact x_weak [true, true, true, false, true] rfl (tj_X12_hasLine_35_5 hX hs x1 x2 x4 M o h hP hE hR)
      · replace h := (if_neg hc).symm.trans h
        refine x_iconst hX dX12_hasLine_39 ?_
        exact x_weak [true, true, true, false, true] rfl (tj_X12_hasLine_40_5 hX hs x1 x2 x4 0 M o h hP hE hR)
    · replace h := (if_neg hc).symm.trans h
      exact x_weak [true, true, true, false, true] rfl (tj_X12_hasLine_35_5 hX hs x1 x2 x4 M o h hP hE hR)
  · replace h := (if_neg hc).symm.trans h
    exact x_weak [false, false, false, true, false] rfl (hE x3 (Option.some.inj h).symm)
set_option maxRecDepth 100000 in
set_option maxHeartbeats 4000000 in
theorem c_X12_hasLine {l : Launch} {G : Gx} (hG : GOK G) (hl : l.stackTraces = false) (hs : SOK G)  (x1 : Int) (x2 : Int) (M : Mem) (r : Int) (h : f_X12_hasLine x1 x2 M = some r) : Cn l G mX12_hasLine 3 [vr G 139, vi x1, vi x2] M (some (vi r)) M := by
  refine Cn_of2 (ls := [some (vr G 139), some (vi x1), some (vi x2), none, none]) hG hl kX12_hasLine rfl (Nat.le_of_ble_eq_true rfl) rfl rfl rfl rfl rfl (fun X eG el hX => ?_)
  subst eG; subst el
  unfold f_X12_hasLine at h
  refine x_iconst hX dX12_hasLine_0 ?_
  refine x_istoren (ls' := [some (vr (xG X) 139), some (vi x1), some (vi x2), some (vi 0), none]) hX dX12_hasLine_1 rfl rfl rfl ?_
  refine x_iconst hX dX12_hasLine_2 ?_
  refine x_istore (ls' := [some (vr (xG X) 139), some (vi x1), some (vi x2), some (vi 0), some (vi 0)]) hX dX12_hasLine_3 rfl rfl rfl ?_
  refine x_weak (ls' := [some (vr (xG X) 139), some (vi x1), some (vi x2), some (vi 0), some (vi 0)]) [true, true, true, true, true] rfl ?_
  refine lp_use (x := (0, 0)) (P := fun x => V X 0 0 (Qn X (some (vi r)) M) 5 [some (vr (xG X) 139), some (vi x1), some (vi x2), some (vi x.1), some (vi x.2)] [] M) (PE := fun z_7 => V X 0 0 (Qn X (some (vi r)) M) 47 [none, none, none, some (vi z_7), none] [] M) (PR := fun q => (Qn X (some (vi r)) M) = Qn X (some (vi q)) M) h (fun x o hh hP hE hR => ts_X12_hasLine_5 hX hs x1 x2 M x.1 x.2 o hh hP hE hR) (fun z_7 h => ?_) (fun q h => ?_)
  · show V X 0 0 (Qn X (some (vi r)) M) 47 [none, none, none, some (vi z_7), none] [] M
    refine x_iloadn hX dX12_hasLine_47 rfl ?_
    obtain ⟨b_8, h⟩ := gz_of h
    cases h
    exact x_zret hX dX12_hasLine_48 b_8 rfl
  · cases h; rfl
set_option maxRecDepth 100000 in
set_option maxHeartbeats 4000000 in
theorem c_X12_addsLine {l : Launch} {G : Gx} (hG : GOK G) (hl : l.stackTraces = false) (hs : SOK G)  (x1 : Int) (x2 : Int) (x3 : Int) (M : Mem) (r : Int) (Mr : Mem) (h : f_X12_addsLine x1 x2 x3 M = some (r, Mr)) : Cn l G mX12_addsLine 3 [vr G 139, vi x1, vi x2, vi x3] M (some (vi r)) Mr := by
  refine Cn_of2 (ls := [some (vr G 139), some (vi x1), some (vi x2), some (vi x3), none]) hG hl kX12_addsLine rfl (Nat.le_of_ble_eq_true rfl) rfl rfl rfl rfl rfl (fun X eG el hX => ?_)
  subst eG; subst el
  unfold f_X12_addsLine at h
  refine x_aloadn hX dX12_addsLine_0 rfl ?_
  refine x_iloadn hX dX12_addsLine_1 rfl ?_
  refine x_iconst hX dX12_addsLine_2 ?_
  obtain ⟨r_1, er_1, h⟩ := cl1_of h
  refine x_callVi (t := 11) (As := [vi x1, vi 2]) (rest := []) hX dX12_addsLine_3 (c_X12_ofOrder (gk hX) (gl hX) hs x1 2 M _ er_1) kX12_ofOrder vX12_ofOrder w_1797 (st139 hs) rfl rfl rfl rfl (Nat.le_of_ble_eq_true rfl) z0 ?_
  refine x_istore (ls' := [some (vr (xG X) 139), some (vi x1), some (vi x2), some (vi x3), some (vi r_1)]) hX dX12_addsLine_6 rfl rfl rfl ?_
  refine x_aloadn hX dX12_addsLine_8 rfl ?_
  refine x_getRj (j := 140) hX dX12_addsLine_9 fl_X12_7 rfl (st139 hs) rfl ?_
  refine x_iloadn hX dX12_addsLine_12 rfl ?_
  refine x_iload hX dX12_addsLine_13 rfl ?_
  obtain ⟨r_3, er_3, h⟩ := cl1_of h
  refine x_callSi (As := [vi x1, vi r_1]) (rest := [vr (xG X) 140]) hX dX12_addsLine_15 (c_X12_lineAt (gk hX) (gl hX) x1 r_1 M _ er_3) kX12_lineAt sX12_lineAt w_1805 rfl rfl rfl (Nat.le_of_ble_eq_true rfl) z0 ?_
  refine x_iloadn hX dX12_addsLine_18 rfl ?_
  obtain ⟨b_6, h⟩ := gi_of h
  obtain ⟨M_5, eM_5, h⟩ := bnd_of h
  refine x_iast hX dX12_addsLine_19 (st140 hs) b_6 rfl (x_meq eM_5 ?_)
  refine x_aloadn hX dX12_addsLine_20 rfl ?_
  refine x_getRj (j := 140) hX dX12_addsLine_21 fl_X12_7 rfl (st139 hs) rfl ?_
  refine x_iloadn hX dX12_addsLine_24 rfl ?_
  refine x_iload hX dX12_addsLine_25 rfl ?_
  obtain ⟨r_7, er_7, h⟩ := cl1_of h
  refine x_callSi (As := [vi x1, vi r_1]) (rest := [vr (xG X) 140]) hX dX12_addsLine_27 (c_X12_lineAt (gk hX) (gl hX) x1 r_1 M_5 _ er_7) kX12_lineAt sX12_lineAt w_1805 rfl rfl rfl (Nat.le_of_ble_eq_true rfl) z0 ?_
  refine x_iconst hX dX12_addsLine_30 ?_
  refine x_iadd hX dX12_addsLine_31 ?_
  refine x_iloadn hX dX12_addsLine_32 rfl ?_
  obtain ⟨b_10, h⟩ := gi_of h
  obtain ⟨M_9, eM_9, h⟩ := bnd_of h
  refine x_iast hX dX12_addsLine_33 (st140 hs) b_10 rfl (x_meq eM_9 ?_)
  refine x_aloadn hX dX12_addsLine_34 rfl ?_
  refine x_getRj (j := 140) hX dX12_addsLine_35 fl_X12_7 rfl (st139 hs) rfl ?_
  refine x_iloadn hX dX12_addsLine_38 rfl ?_
  refine x_iload hX dX12_addsLine_39 rfl ?_
  obtain ⟨r_11, er_11, h⟩ := cl1_of h
  refine x_callSi (As := [vi x1, vi r_1]) (rest := [vr (xG X) 140]) hX dX12_addsLine_41 (c_X12_lineAt (gk hX) (gl hX) x1 r_1 M_9 _ er_11) kX12_lineAt sX12_lineAt w_1805 rfl rfl rfl (Nat.le_of_ble_eq_true rfl) z0 ?_
  refine x_iconst hX dX12_addsLine_44 ?_
  refine x_iadd hX dX12_addsLine_45 ?_
  refine x_iconst hX dX12_addsLine_46 ?_
  obtain ⟨b_14, h⟩ := gi_of h
  obtain ⟨M_13, eM_13, h⟩ := bnd_of h
  refine x_iast hX dX12_addsLine_47 (st140 hs) b_14 rfl (x_meq eM_13 ?_)
  refine x_aloadn hX dX12_addsLine_48 rfl ?_
  refine x_getRj (j := 140) hX dX12_addsLine_49 fl_X12_7 rfl (st139 hs) rfl ?_
  refine x_iloadn hX dX12_addsLine_52 rfl ?_
  obtain ⟨r_15, er_15, h⟩ := cl1_of h
  refine x_callSi (As := [vi x1]) (rest := [vr (xG X) 140]) hX dX12_addsLine_53 (c_X12_orderAt (gk hX) (gl hX) x1 M_13 _ er_15) kX12_orderAt sX12_orderAt w_1786 rfl rfl rfl (Nat.le_of_ble_eq_true rfl) z0 ?_
  refine x_iconst hX dX12_addsLine_56 ?_
  refine x_iadd hX dX12_addsLine_57 ?_
  refine x_dup2 hX dX12_addsLine_58 rfl rfl ?_
  obtain ⟨b_17, h⟩ := gi_of h
  refine x_iald hX dX12_addsLine_59 (st140 hs) b_17 rfl ?_
  refine x_iconst hX dX12_addsLine_60 ?_
  refine x_iadd hX dX12_addsLine_61 ?_
  obtain ⟨b_19, h⟩ := gi_of h
  obtain ⟨M_18, eM_18, h⟩ := bnd_of h
  refine x_iast hX dX12_addsLine_62 (st140 hs) b_19 rfl (x_meq eM_18 ?_)
  refine x_iload hX dX12_addsLine_63 rfl ?_
  cases h
  exact x_iret hX dX12_addsLine_65 rfl
set_option maxRecDepth 100000 in
set_option maxHeartbeats 4000000 in
theorem tj_X12_told_14 {X : Cxt} (hX : Gd X RX12 cX12_told 3 (some .int) 3) (hs : SOK (xG X))   (x1 : Int) (x2 : Int) (y1 : Int) (M : Mem) (r : Int) (Mr : Mem) (h : j_X12_told_14 x1 x2 y1 M = some (r, Mr)) : V X 0 0 (Qn X (some (vi r)) Mr) 14 [some (vr (xG X) 139), some (vi x1), some (vi x2)] [vi y1, vr (xG X) 139] M := by
  unfold j_X12_told_14 at h
  obtain ⟨M_3, eM_3, h⟩ := bnd_of h
  refine x_putI hX dX12_told_14 fp_X12_70 rfl (st139 hs) (x_meq eM_3 ?_)
  refine x_aloadn hX dX12_told_17 rfl ?_
  refine x_getI hX dX12_told_18 fl_X12_70 rfl (st139 hs) ?_
  refine x_if_le (tgt := 28) hX dX12_told_21 (by decide) rfl (fun hc => ?_) (fun hc => ?_)
  · replace h := (if_pos hc).symm.trans h
    refine x_iconst hX dX12_told_24 ?_
    refine x_goto (tgt := 34) hX dX12_told_25 (by decide) ?_
    cases h
    exact x_iret hX dX12_told_34 rfl
  · replace h := (if_neg hc).symm.trans h
    refine x_aloadn hX dX12_told_28 rfl ?_
    refine x_iloadn hX dX12_told_29 rfl ?_
    refine x_iloadn hX dX12_told_30 rfl ?_
    obtain ⟨r_4, er_4, h⟩ := cl1_of h
    refine x_callVi (t := 11) (As := [vi x1, vi x2]) (rest := []) hX dX12_told_31 (c_X12_ofOrder (gk hX) (gl hX) hs x1 x2 M_3 _ er_4) kX12_ofOrder vX12_ofOrder w_1797 (st139 hs) rfl rfl rfl rfl (Nat.le_of_ble_eq_true rfl) z0 ?_
    cases h
    exact x_iret hX dX12_told_34 rfl
set_option maxRecDepth 100000 in
set_option maxHeartbeats 4000000 in
theorem c_X12_told {l : Launch} {G : Gx} (hG : GOK G) (hl : l.stackTraces = false) (hs : SOK G)  (x1 : Int) (x2 : Int) (M : Mem) (r : Int) (Mr : Mem) (h : f_X12_told x1 x2 M = some (r, Mr)) : Cn l G mX12_told 3 [vr G 139, vi x1, vi x2] M (some (vi r)) Mr := by
  refine Cn_of2 (ls := [some (vr G 139), some (vi x1), some (vi x2)]) hG hl kX12_told rfl (Nat.le_of_ble_eq_true rfl) rfl rfl rfl rfl rfl (fun X eG el hX => ?_)
  subst eG; subst el
  unfold f_X12_told at h
  refine x_aloadn hX dX12_told_0 rfl ?_
  refine x_aloadn hX dX12_told_1 rfl ?_
  refine x_iloadn hX dX12_told_2 rfl ?_
  obtain ⟨r_1, er_1, h⟩ := cl1_of h
  refine x_callVi (t := 11) (As := [vi x1]) (rest := [vr (xG X) 139]) hX dX12_told_3 (c_X12_isOrder (gk hX) (gl hX) hs x1 M _ er_1) kX12_isOrder vX12_isOrder w_1793 (st139 hs) rfl rfl rfl rfl (Nat.le_of_ble_eq_true rfl) z0 ?_
  refine x_if_eq (tgt := 13) hX dX12_told_6 (by decide) rfl (fun hc => ?_) (fun hc => ?_)
  · replace h := (if_pos hc).symm.trans h
    refine x_iconst hX dX12_told_13 ?_
    exact x_weak [true, true, true] rfl (tj_X12_told_14 hX hs x1 x2 1 M r Mr h)
  · replace h := (if_neg hc).symm.trans h
    refine x_iconst hX dX12_told_9 ?_
    refine x_goto (tgt := 14) hX dX12_told_10 (by decide) ?_
    exact x_weak [true, true, true] rfl (tj_X12_told_14 hX hs x1 x2 0 M r Mr h)
set_option maxRecDepth 100000 in
set_option maxHeartbeats 4000000 in
theorem c_X12_isAlive {l : Launch} {G : Gx} (hG : GOK G) (hl : l.stackTraces = false) (hs : SOK G)  (x1 : Int) (M : Mem) (r : Int) (h : f_X12_isAlive x1 M = some r) : Cn l G mX12_isAlive 3 [vr G 139, vi x1] M (some (vi r)) M := by
  refine Cn_of2 (ls := [some (vr G 139), some (vi x1)]) hG hl kX12_isAlive rfl (Nat.le_of_ble_eq_true rfl) rfl rfl rfl rfl rfl (fun X eG el hX => ?_)
  subst eG; subst el
  unfold f_X12_isAlive at h
  refine x_aloadn hX dX12_isAlive_0 rfl ?_
  refine x_iloadn hX dX12_isAlive_1 rfl ?_
  refine x_iconst hX dX12_isAlive_2 ?_
  obtain ⟨r_1, er_1, h⟩ := cl1_of h
  refine x_callVi (t := 11) (As := [vi x1, vi 1]) (rest := []) hX dX12_isAlive_3 (c_X12_ofOrder (gk hX) (gl hX) hs x1 1 M _ er_1) kX12_ofOrder vX12_ofOrder w_1797 (st139 hs) rfl rfl rfl rfl (Nat.le_of_ble_eq_true rfl) z0 ?_
  refine x_iconst hX dX12_isAlive_6 ?_
  refine x_icmp_ge (tgt := 14) hX dX12_isAlive_7 (by decide) rfl cw_2 (fun hc => ?_) (fun hc => ?_)
  · replace h := (if_pos hc).symm.trans h
    refine x_iconst hX dX12_isAlive_10 ?_
    refine x_goto (tgt := 15) hX dX12_isAlive_11 (by decide) ?_
    cases h
    exact x_zret hX dX12_isAlive_15 (Or.inr cw_1) rfl
  · replace h := (if_neg hc).symm.trans h
    refine x_iconst hX dX12_isAlive_14 ?_
    cases h
    exact x_zret hX dX12_isAlive_15 (Or.inl cw_0) rfl
set_option maxRecDepth 100000 in
set_option maxHeartbeats 4000000 in
theorem ts_X12_weightOf_4 {X : Cxt} (hX : Gd X RX12 cX12_weightOf 4 (some .int) 3) (hs : SOK (xG X))  (x1 : Int) (M : Mem) (x2 : Int) (x3 : Int) {Q : State → Prop} (o : (Int × Int) ⊕ ((Int) ⊕ (Int))) (h : s_X12_weightOf_4 x1 M x2 x3 = some o) (hP : ∀ y, o = .inl y → V X 0 0 Q 4 [some (vr (xG X) 139), some (vi x1), some (vi y.1), some (vi y.2)] [] M) (hE : ∀ z, o = .inr (.inl z) → V X 0 0 Q 51 [none, none, some (vi z), none] [] M) (hR : ∀ q, o = .inr (.inr q) → Q = Qn X (some (vi q)) M) : V X 0 0 Q 4 [some (vr (xG X) 139), some (vi x1), some (vi x2), some (vi x3)] [] M := by
  unfold s_X12_weightOf_4 at h
  refine x_iloadn hX dX12_weightOf_4 rfl ?_
  refine x_aloadn hX dX12_weightOf_5 rfl ?_
  refine x_iloadn hX dX12_weightOf_6 rfl ?_
  refine x_iconst hX dX12_weightOf_7 ?_
  obtain ⟨r_1, er_1, h⟩ := cl1_of h
  refine x_callVi (t := 11) (As := [vi x1, vi 2]) (rest := [vi x3]) hX dX12_weightOf_8 (c_X12_ofOrder (gk hX) (gl hX) hs x1 2 M _ er_1) kX12_ofOrder vX12_ofOrder w_1797 (st139 hs) rfl rfl rfl rfl (Nat.le_of_ble_eq_true rfl) z0 ?_
  refine x_icmp_ge (tgt := 51) hX dX12_weightOf_11 (by decide) rfl rfl (fun hc => ?_) (fun hc => ?_)
  · replace h := (if_pos hc).symm.trans h
    refine x_iloadn hX dX12_weightOf_14 rfl ?_
    refine x_aloadn hX dX12_weightOf_15 rfl ?_
    refine x_getRj (j := 140) hX dX12_weightOf_16 fl_X12_7 rfl (st139 hs) rfl ?_
    refine x_iloadn hX dX12_weightOf_19 rfl ?_
    refine x_iloadn hX dX12_weightOf_20 rfl ?_
    obtain ⟨r_3, er_3, h⟩ := cl1_of h
    refine x_callSi (As := [vi x1, vi x3]) (rest := [vr (xG X) 140, vi x2]) hX dX12_weightOf_21 (c_X12_lineAt (gk hX) (gl hX) x1 x3 M _ er_3) kX12_lineAt sX12_lineAt w_1805 rfl rfl rfl (Nat.le_of_ble_eq_true rfl) z0 ?_
    refine x_iconst hX dX12_weightOf_24 ?_
    refine x_iadd hX dX12_weightOf_25 ?_
    obtain ⟨b_5, h⟩ := gi_of h
    refine x_iald hX dX12_weightOf_26 (st140 hs) b_5 rfl ?_
    refine x_aloadn hX dX12_weightOf_27 rfl ?_
    refine x_aloadn hX dX12_weightOf_28 rfl ?_
    refine x_getRj (j := 140) hX dX12_weightOf_29 fl_X12_7 rfl (st139 hs) rfl ?_
    refine x_iloadn hX dX12_weightOf_32 rfl ?_
    refine x_iloadn hX dX12_weightOf_33 rfl ?_
    obtain ⟨r_6, er_6, h⟩ := cl1_of h
    refine x_callSi (As := [vi x1, vi x3]) (rest := [vr (xG X) 140, vr (xG X) 139, vi (M 140 (ix (r_3 + 1))), vi x2]) hX dX12_weightOf_34 (c_X12_lineAt (gk hX) (gl hX) x1 x3 M _ er_6) kX12_lineAt sX12_lineAt w_1805 rfl rfl rfl (Nat.le_of_ble_eq_true rfl) z0 ?_
    obtain ⟨b_8, h⟩ := gi_of h
    refine x_iald hX dX12_weightOf_37 (st140 hs) b_8 rfl ?_
    refine x_iconst hX dX12_weightOf_38 ?_
    obtain ⟨r_9, er_9, h⟩ := cl1_of h
    refine x_callVi (t := 11) (As := [vi (M 140 (ix r_6)), vi 2]) (rest := [vi (M 140 (ix (r_3 + 1))), vi x2]) hX dX12_weightOf_39 (c_X12_ofItem (gk hX) (gl hX) hs (M 140 (ix r_6)) 2 M _ er_9) kX12_ofItem vX12_ofItem w_1770 (st139 hs) rfl rfl rfl rfl (Nat.le_of_ble_eq_true rfl) z0 ?_
    refine x_imul hX dX12_weightOf_42 ?_
    refine x_iadd hX dX12_weightOf_43 ?_
    obtain ⟨x2_11, ex2_11, h⟩ := bnd_of h
    refine x_istoren (ls' := [some (vr (xG X) 139), some (vi x1), some (vi x2_11), some (vi x3)]) hX dX12_weightOf_44 rfl ex2_11 rfl ?_
    obtain ⟨x3_12, ex3_12, h⟩ := bnd_of h
    refine x_iinc (ls' := [some (vr (xG X) 139), some (vi x1), some (vi x2_11), some (vi x3_12)]) hX dX12_weightOf_45 rfl rfl ex3_12 rfl ?_
    refine x_goto (tgt := 4) hX dX12_weightOf_48 (by decide) ?_
    exact x_weak [true, true, true, true] rfl (hP (x2_11, x3_12) (Option.some.inj h).symm)
  · replace h := (if_neg hc).symm.trans h
    exact x_weak [false, false, true, false] rfl (hE x2 (Option.some.inj h).symm)
set_option maxRecDepth 100000 in
set_option maxHeartbeats 4000000 in
theorem c_X12_weightOf {l : Launch} {G : Gx} (hG : GOK G) (hl : l.stackTraces = false) (hs : SOK G)  (x1 : Int) (M : Mem) (r : Int) (h : f_X12_weightOf x1 M = some r) : Cn l G mX12_weightOf 3 [vr G 139, vi x1] M (some (vi r)) M := by
  refine Cn_of2 (ls := [some (vr G 139), some (vi x1), none, none]) hG hl kX12_weightOf rfl (Nat.le_of_ble_eq_true rfl) rfl rfl rfl rfl rfl (fun X eG el hX => ?_)
  subst eG; subst el
  unfold f_X12_weightOf at h
  refine x_iconst hX dX12_weightOf_0 ?_
  refine x_istoren (ls' := [some (vr (xG X) 139), some (vi x1), some (vi 0), none]) hX dX12_weightOf_1 rfl rfl rfl ?_
  refine x_iconst hX dX12_weightOf_2 ?_
  refine x_istoren (ls' := [some (vr (xG X) 139), some (vi x1), some (vi 0), some (vi 0)]) hX dX12_weightOf_3 rfl rfl rfl ?_
  refine x_weak (ls' := [some (vr (xG X) 139), some (vi x1), some (vi 0), some (vi 0)]) [true, true, true, true] rfl ?_
  refine lp_use (x := (0, 0)) (P := fun x => V X 0 0 (Qn X (some (vi r)) M) 4 [some (vr (xG X) 139), some (vi x1), some (vi x.1), some (vi x.2)] [] M) (PE := fun z_13 => V X 0 0 (Qn X (some (vi r)) M) 51 [none, none, some (vi z_13), none] [] M) (PR := fun q => (Qn X (some (vi r)) M) = Qn X (some (vi q)) M) h (fun x o hh hP hE hR => ts_X12_weightOf_4 hX hs x1 M x.1 x.2 o hh hP hE hR) (fun z_13 h => ?_) (fun q h => ?_)
  · show V X 0 0 (Qn X (some (vi r)) M) 51 [none, none, some (vi z_13), none] [] M
    refine x_iloadn hX dX12_weightOf_51 rfl ?_
    cases h
    exact x_iret hX dX12_weightOf_52 rfl
  · cases h; rfl
set_option maxRecDepth 100000 in
set_option maxHeartbeats 4000000 in
theorem ts_X12_aislesOf_4 {X : Cxt} (hX : Gd X RX12 cX12_aislesOf 4 (some .int) 3) (hs : SOK (xG X))  (x1 : Int) (M : Mem) (x2 : Int) (x3 : Int) {Q : State → Prop} (o : (Int × Int) ⊕ ((Int) ⊕ (Int))) (h : s_X12_aislesOf_4 x1 M x2 x3 = some o) (hP : ∀ y, o = .inl y → V X 0 0 Q 4 [some (vr (xG X) 139), some (vi x1), some (vi y.1), some (vi y.2)] [] M) (hE : ∀ z, o = .inr (.inl z) → V X 0 0 Q 40 [none, none, some (vi z), none] [] M) (hR : ∀ q, o = .inr (.inr q) → Q = Qn X (some (vi q)) M) : V X 0 0 Q 4 [some (vr (xG X) 139), some (vi x1), some (vi x2), some (vi x3)] [] M := by
  unfold s_X12_aislesOf_4 at h
  refine x_iloadn hX dX12_aislesOf_4 rfl ?_
  refine x_aloadn hX dX12_aislesOf_5 rfl ?_
  refine x_iloadn hX dX12_aislesOf_6 rfl ?_
  refine x_iconst hX dX12_aislesOf_7 ?_
  obtain ⟨r_1, er_1, h⟩ := cl1_of h
  refine x_callVi (t := 11) (As := [vi x1, vi 2]) (rest := [vi x3]) hX dX12_aislesOf_8 (c_X12_ofOrder (gk hX) (gl hX) hs x1 2 M _ er_1) kX12_ofOrder vX12_ofOrder w_1797 (st139 hs) rfl rfl rfl rfl (Nat.le_of_ble_eq_true rfl) z0 ?_
  refine x_icmp_ge (tgt := 40) hX dX12_aislesOf_11 (by decide) rfl rfl (fun hc => ?_) (fun hc => ?_)
  · replace h := (if_pos hc).symm.trans h
    refine x_iloadn hX dX12_aislesOf_14 rfl ?_
    refine x_iconst hX dX12_aislesOf_15 ?_
    refine x_aloadn hX dX12_aislesOf_16 rfl ?_
    refine x_aloadn hX dX12_aislesOf_17 rfl ?_
    refine x_getRj (j := 140) hX dX12_aislesOf_18 fl_X12_7 rfl (st139 hs) rfl ?_
    refine x_iloadn hX dX12_aislesOf_21 rfl ?_
    refine x_iloadn hX dX12_aislesOf_22 rfl ?_
    obtain ⟨r_3, er_3, h⟩ := cl1_of h
    refine x_callSi (As := [vi x1, vi x3]) (rest := [vr (xG X) 140, vr (xG X) 139, vi 1, vi x2]) hX dX12_aislesOf_23 (c_X12_lineAt (gk hX) (gl hX) x1 x3 M _ er_3) kX12_lineAt sX12_lineAt w_1805 rfl rfl rfl (Nat.le_of_ble_eq_true rfl) z0 ?_
    obtain ⟨b_5, h⟩ := gi_of h
    refine x_iald hX dX12_aislesOf_26 (st140 hs) b_5 rfl ?_
    refine x_iconst hX dX12_aislesOf_27 ?_
    obtain ⟨r_6, er_6, h⟩ := cl1_of h
    refine x_callVi (t := 11) (As := [vi (M 140 (ix r_3)), vi 0]) (rest := [vi 1, vi x2]) hX dX12_aislesOf_28 (c_X12_ofItem (gk hX) (gl hX) hs (M 140 (ix r_3)) 0 M _ er_6) kX12_ofItem vX12_ofItem w_1770 (st139 hs) rfl rfl rfl rfl (Nat.le_of_ble_eq_true rfl) z0 ?_
    refine x_ishl hX dX12_aislesOf_31 ?_
    refine x_ior hX dX12_aislesOf_32 ?_
    obtain ⟨x2_8, ex2_8, h⟩ := bnd_of h
    refine x_istoren (ls' := [some (vr (xG X) 139), some (vi x1), some (vi x2_8), some (vi x3)]) hX dX12_aislesOf_33 rfl ex2_8 rfl ?_
    obtain ⟨x3_9, ex3_9, h⟩ := bnd_of h
    refine x_iinc (ls' := [some (vr (xG X) 139), some (vi x1), some (vi x2_8), some (vi x3_9)]) hX dX12_aislesOf_34 rfl rfl ex3_9 rfl ?_
    refine x_goto (tgt := 4) hX dX12_aislesOf_37 (by decide) ?_
    exact x_weak [true, true, true, true] rfl (hP (x2_8, x3_9) (Option.some.inj h).symm)
  · replace h := (if_neg hc).symm.trans h
    exact x_weak [false, false, true, false] rfl (hE x2 (Option.some.inj h).symm)
set_option maxRecDepth 100000 in
set_option maxHeartbeats 4000000 in
theorem c_X12_aislesOf {l : Launch} {G : Gx} (hG : GOK G) (hl : l.stackTraces = false) (hs : SOK G)  (x1 : Int) (M : Mem) (r : Int) (h : f_X12_aislesOf x1 M = some r) : Cn l G mX12_aislesOf 3 [vr G 139, vi x1] M (some (vi r)) M := by
  refine Cn_of2 (ls := [some (vr G 139), some (vi x1), none, none]) hG hl kX12_aislesOf rfl (Nat.le_of_ble_eq_true rfl) rfl rfl rfl rfl rfl (fun X eG el hX => ?_)
  subst eG; subst el
  unfold f_X12_aislesOf at h
  refine x_iconst hX dX12_aislesOf_0 ?_
  refine x_istoren (ls' := [some (vr (xG X) 139), some (vi x1), some (vi 0), none]) hX dX12_aislesOf_1 rfl rfl rfl ?_
  refine x_iconst hX dX12_aislesOf_2 ?_
  refine x_istoren (ls' := [some (vr (xG X) 139), some (vi x1), some (vi 0), some (vi 0)]) hX dX12_aislesOf_3 rfl rfl rfl ?_
  refine x_weak (ls' := [some (vr (xG X) 139), some (vi x1), some (vi 0), some (vi 0)]) [true, true, true, true] rfl ?_
  refine lp_use (x := (0, 0)) (P := fun x => V X 0 0 (Qn X (some (vi r)) M) 4 [some (vr (xG X) 139), some (vi x1), some (vi x.1), some (vi x.2)] [] M) (PE := fun z_10 => V X 0 0 (Qn X (some (vi r)) M) 40 [none, none, some (vi z_10), none] [] M) (PR := fun q => (Qn X (some (vi r)) M) = Qn X (some (vi q)) M) h (fun x o hh hP hE hR => ts_X12_aislesOf_4 hX hs x1 M x.1 x.2 o hh hP hE hR) (fun z_10 h => ?_) (fun q h => ?_)
  · show V X 0 0 (Qn X (some (vi r)) M) 40 [none, none, some (vi z_10), none] [] M
    refine x_iloadn hX dX12_aislesOf_40 rfl ?_
    cases h
    exact x_iret hX dX12_aislesOf_41 rfl
  · cases h; rfl
set_option maxRecDepth 100000 in
set_option maxHeartbeats 4000000 in
theorem c_X12_leaves {l : Launch} {G : Gx} (hG : GOK G) (hl : l.stackTraces = false) (hs : SOK G)  (x1 : Int) (M : Mem) (Mr : Mem) (h : f_X12_leaves x1 M = some Mr) : Cn l G mX12_leaves 3 [vr G 139, vi x1] M none Mr := by
  refine Cn_of2 (ls := [some (vr G 139), some (vi x1), none]) hG hl kX12_leaves rfl (Nat.le_of_ble_eq_true rfl) rfl rfl rfl rfl rfl (fun X eG el hX => ?_)
  subst eG; subst el
  unfold f_X12_leaves at h
  refine x_aloadn hX dX12_leaves_0 rfl ?_
  refine x_iloadn hX dX12_leaves_1 rfl ?_
  obtain ⟨r_1, er_1, h⟩ := cl1_of h
  refine x_callVi (t := 11) (As := [vi x1]) (rest := []) hX dX12_leaves_2 (c_X12_batchOf (gk hX) (gl hX) hs x1 M _ er_1) kX12_batchOf vX12_batchOf w_1864 (st139 hs) rfl rfl rfl rfl (Nat.le_of_ble_eq_true rfl) z0 ?_
  refine x_istoren (ls' := [some (vr (xG X) 139), some (vi x1), some (vi r_1)]) hX dX12_leaves_5 rfl rfl rfl ?_
  refine x_aloadn hX dX12_leaves_6 rfl ?_
  refine x_getRj (j := 140) hX dX12_leaves_7 fl_X12_7 rfl (st139 hs) rfl ?_
  refine x_sipush hX dX12_leaves_10 sp_461 ?_
  refine x_iloadn hX dX12_leaves_13 rfl ?_
  refine x_iadd hX dX12_leaves_14 ?_
  refine x_dup2 hX dX12_leaves_15 rfl rfl ?_
  obtain ⟨b_3, h⟩ := gi_of h
  refine x_iald hX dX12_leaves_16 (st140 hs) b_3 rfl ?_
  refine x_iconst hX dX12_leaves_17 ?_
  refine x_iloadn hX dX12_leaves_18 rfl ?_
  refine x_ishl hX dX12_leaves_19 ?_
  refine x_iconst hX dX12_leaves_20 ?_
  refine x_ixor hX dX12_leaves_21 ?_
  refine x_iand hX dX12_leaves_22 ?_
  obtain ⟨b_5, h⟩ := gi_of h
  obtain ⟨M_4, eM_4, h⟩ := bnd_of h
  refine x_iast hX dX12_leaves_23 (st140 hs) b_5 rfl (x_meq eM_4 ?_)
  refine x_aloadn hX dX12_leaves_24 rfl ?_
  refine x_getRj (j := 140) hX dX12_leaves_25 fl_X12_7 rfl (st139 hs) rfl ?_
  refine x_sipush hX dX12_leaves_28 sp_461 ?_
  refine x_iloadn hX dX12_leaves_31 rfl ?_
  refine x_iadd hX dX12_leaves_32 ?_
  obtain ⟨b_6, h⟩ := gi_of h
  refine x_iald hX dX12_leaves_33 (st140 hs) b_6 rfl ?_
  refine x_if_ne (tgt := 42) hX dX12_leaves_34 (by decide) rfl (fun hc => ?_) (fun hc => ?_)
  · replace h := (if_pos hc).symm.trans h
    refine x_aloadn hX dX12_leaves_37 rfl ?_
    refine x_iloadn hX dX12_leaves_38 rfl ?_
    obtain ⟨M_8, er_7, h⟩ := cl1_of h
    refine x_callVv (t := 11) (As := [vi r_1]) (rest := []) hX dX12_leaves_39 (c_X12_removes (gk hX) (gl hX) hs r_1 M_4 _ er_7) kX12_removes vX12_removes w_1871 (st139 hs) rfl rfl rfl rfl (Nat.le_of_ble_eq_true rfl) z0 ?_
    cases h
    exact x_vret hX dX12_leaves_42 rfl
  · replace h := (if_neg hc).symm.trans h
    cases h
    exact x_vret hX dX12_leaves_42 rfl
set_option maxRecDepth 100000 in
set_option maxHeartbeats 4000000 in
theorem c_X12_addsBatch {l : Launch} {G : Gx} (hG : GOK G) (hl : l.stackTraces = false) (hs : SOK G)  (x1 : Int) (M : Mem) (r : Int) (Mr : Mem) (h : f_X12_addsBatch x1 M = some (r, Mr)) : Cn l G mX12_addsBatch 3 [vr G 139, vi x1] M (some (vi r)) Mr := by
  refine Cn_of2 (ls := [some (vr G 139), some (vi x1)]) hG hl kX12_addsBatch rfl (Nat.le_of_ble_eq_true rfl) rfl rfl rfl rfl rfl (fun X eG el hX => ?_)
  subst eG; subst el
  unfold f_X12_addsBatch at h
  refine x_aloadn hX dX12_addsBatch_0 rfl ?_
  refine x_getRj (j := 140) hX dX12_addsBatch_1 fl_X12_7 rfl (st139 hs) rfl ?_
  refine x_sipush hX dX12_addsBatch_4 sp_461 ?_
  refine x_aloadn hX dX12_addsBatch_7 rfl ?_
  refine x_getRj (j := 140) hX dX12_addsBatch_8 fl_X12_7 rfl (st139 hs) rfl ?_
  refine x_iconst hX dX12_addsBatch_11 ?_
  refine x_iald hX dX12_addsBatch_12 (st140 hs) inc_5_469 ixc_5 ?_
  refine x_iadd hX dX12_addsBatch_13 ?_
  refine x_iloadn hX dX12_addsBatch_14 rfl ?_
  obtain ⟨b_2, h⟩ := gi_of h
  obtain ⟨M_1, eM_1, h⟩ := bnd_of h
  refine x_iast hX dX12_addsBatch_15 (st140 hs) b_2 rfl (x_meq eM_1 ?_)
  refine x_aloadn hX dX12_addsBatch_16 rfl ?_
  refine x_getRj (j := 140) hX dX12_addsBatch_17 fl_X12_7 rfl (st139 hs) rfl ?_
  refine x_iconst hX dX12_addsBatch_20 ?_
  refine x_dup2 hX dX12_addsBatch_21 rfl rfl ?_
  refine x_iald hX dX12_addsBatch_22 (st140 hs) inc_5_469 ixc_5 ?_
  refine x_iconst hX dX12_addsBatch_23 ?_
  refine x_iadd hX dX12_addsBatch_24 ?_
  obtain ⟨M_3, eM_3, h⟩ := bnd_of h
  refine x_iast hX dX12_addsBatch_25 (st140 hs) inc_5_469 ixc_5 (x_meq eM_3 ?_)
  refine x_aloadn hX dX12_addsBatch_26 rfl ?_
  refine x_iloadn hX dX12_addsBatch_27 rfl ?_
  refine x_iconst hX dX12_addsBatch_28 ?_
  obtain ⟨M_5, er_4, h⟩ := cl1_of h
  refine x_callVv (t := 11) (As := [vi x1, vi 1]) (rest := []) hX dX12_addsBatch_29 (c_X12_setsStates (gk hX) (gl hX) hs x1 1 M_3 _ er_4) kX12_setsStates vX12_setsStates w_1915 (st139 hs) rfl rfl rfl rfl (Nat.le_of_ble_eq_true rfl) z0 ?_
  refine x_aloadn hX dX12_addsBatch_32 rfl ?_
  refine x_getRj (j := 140) hX dX12_addsBatch_33 fl_X12_7 rfl (st139 hs) rfl ?_
  refine x_iconst hX dX12_addsBatch_36 ?_
  refine x_iald hX dX12_addsBatch_37 (st140 hs) inc_5_469 ixc_5 ?_
  refine x_iconst hX dX12_addsBatch_38 ?_
  refine x_isub hX dX12_addsBatch_39 ?_
  cases h
  exact x_iret hX dX12_addsBatch_40 rfl
set_option maxRecDepth 100000 in
set_option maxHeartbeats 4000000 in
theorem c_X12_canBatch {l : Launch} {G : Gx} (hG : GOK G) (hl : l.stackTraces = false) (hs : SOK G)  (x1 : Int) (M : Mem) (r : Int) (h : f_X12_canBatch x1 M = some r) : Cn l G mX12_canBatch 3 [vr G 139, vi x1] M (some (vi r)) M := by
  refine Cn_of2 (ls := [some (vr G 139), some (vi x1)]) hG hl kX12_canBatch rfl (Nat.le_of_ble_eq_true rfl) rfl rfl rfl rfl rfl (fun X eG el hX => ?_)
  subst eG; subst el
  unfold f_X12_canBatch at h
  refine x_aloadn hX dX12_canBatch_0 rfl ?_
  refine x_iloadn hX dX12_canBatch_1 rfl ?_
  refine x_iconst hX dX12_canBatch_2 ?_
  obtain ⟨r_1, er_1, h⟩ := cl1_of h
  refine x_callVi (t := 11) (As := [vi x1, vi 1]) (rest := []) hX dX12_canBatch_3 (c_X12_ofOrder (gk hX) (gl hX) hs x1 1 M _ er_1) kX12_ofOrder vX12_ofOrder w_1797 (st139 hs) rfl rfl rfl rfl (Nat.le_of_ble_eq_true rfl) z0 ?_
  refine x_if_ne (tgt := 22) hX dX12_canBatch_6 (by decide) rfl (fun hc => ?_) (fun hc => ?_)
  · replace h := (if_pos hc).symm.trans h
    refine x_aloadn hX dX12_canBatch_9 rfl ?_
    refine x_iloadn hX dX12_canBatch_10 rfl ?_
    refine x_iconst hX dX12_canBatch_11 ?_
    obtain ⟨r_3, er_3, h⟩ := cl1_of h
    refine x_callVi (t := 11) (As := [vi x1, vi 2]) (rest := []) hX dX12_canBatch_12 (c_X12_ofOrder (gk hX) (gl hX) hs x1 2 M _ er_3) kX12_ofOrder vX12_ofOrder w_1797 (st139 hs) rfl rfl rfl rfl (Nat.le_of_ble_eq_true rfl) z0 ?_
    refine x_if_le (tgt := 22) hX dX12_canBatch_15 (by decide) rfl (fun hc => ?_) (fun hc => ?_)
    · replace h := (if_pos hc).symm.trans h
      refine x_iconst hX dX12_canBatch_18 ?_
      refine x_goto (tgt := 23) hX dX12_canBatch_19 (by decide) ?_
      cases h
      exact x_zret hX dX12_canBatch_23 (Or.inr cw_1) rfl
    · replace h := (if_neg hc).symm.trans h
      refine x_iconst hX dX12_canBatch_22 ?_
      cases h
      exact x_zret hX dX12_canBatch_23 (Or.inl cw_0) rfl
  · replace h := (if_neg hc).symm.trans h
    refine x_iconst hX dX12_canBatch_22 ?_
    cases h
    exact x_zret hX dX12_canBatch_23 (Or.inl cw_0) rfl
set_option maxRecDepth 100000 in
set_option maxHeartbeats 4000000 in
theorem tj_X12_dissolve_14 {X : Cxt} (hX : Gd X RX12 cX12_dissolve 2 (some .int) 3) (hs : SOK (xG X))   (x1 : Int) (y1 : Int) (M : Mem) (r : Int) (Mr : Mem) (h : j_X12_dissolve_14 x1 y1 M = some (r, Mr)) : V X 0 0 (Qn X (some (vi r)) Mr) 14 [some (vr (xG X) 139), some (vi x1)] [vi y1, vr (xG X) 139] M := by
  unfold j_X12_dissolve_14 at h
  obtain ⟨M_3, eM_3, h⟩ := bnd_of h
  refine x_putI hX dX12_dissolve_14 fp_X12_70 rfl (st139 hs) (x_meq eM_3 ?_)
  refine x_aloadn hX dX12_dissolve_17 rfl ?_
  refine x_getI hX dX12_dissolve_18 fl_X12_70 rfl (st139 hs) ?_
  refine x_if_le (tgt := 26) hX dX12_dissolve_21 (by decide) rfl (fun hc => ?_) (fun hc => ?_)
  · replace h := (if_pos hc).symm.trans h
    refine x_iconst hX dX12_dissolve_24 ?_
    cases h
    exact x_iret hX dX12_dissolve_25 rfl
  · replace h := (if_neg hc).symm.trans h
    refine x_aloadn hX dX12_dissolve_26 rfl ?_
    refine x_aloadn hX dX12_dissolve_27 rfl ?_
    refine x_getRj (j := 140) hX dX12_dissolve_28 fl_X12_7 rfl (st139 hs) rfl ?_
    refine x_sipush hX dX12_dissolve_31 sp_461 ?_
    refine x_iloadn hX dX12_dissolve_34 rfl ?_
    refine x_iadd hX dX12_dissolve_35 ?_
    obtain ⟨b_4, h⟩ := gi_of h
    refine x_iald hX dX12_dissolve_36 (st140 hs) b_4 rfl ?_
    refine x_iconst hX dX12_dissolve_37 ?_
    obtain ⟨M_6, er_5, h⟩ := cl1_of h
    refine x_callVv (t := 11) (As := [vi (M_3 140 (ix (461 + x1))), vi 0]) (rest := []) hX dX12_dissolve_38 (c_X12_setsStates (gk hX) (gl hX) hs (M_3 140 (ix (461 + x1))) 0 M_3 _ er_5) kX12_setsStates vX12_setsStates w_1915 (st139 hs) rfl rfl rfl rfl (Nat.le_of_ble_eq_true rfl) z0 ?_
    refine x_aloadn hX dX12_dissolve_41 rfl ?_
    refine x_iloadn hX dX12_dissolve_42 rfl ?_
    obtain ⟨M_8, er_7, h⟩ := cl1_of h
    refine x_callVv (t := 11) (As := [vi x1]) (rest := []) hX dX12_dissolve_43 (c_X12_removes (gk hX) (gl hX) hs x1 M_6 _ er_7) kX12_removes vX12_removes w_1871 (st139 hs) rfl rfl rfl rfl (Nat.le_of_ble_eq_true rfl) z0 ?_
    refine x_aloadn hX dX12_dissolve_46 rfl ?_
    refine x_getRj (j := 140) hX dX12_dissolve_47 fl_X12_7 rfl (st139 hs) rfl ?_
    refine x_iconst hX dX12_dissolve_50 ?_
    refine x_iald hX dX12_dissolve_51 (st140 hs) inc_5_469 ixc_5 ?_
    cases h
    exact x_iret hX dX12_dissolve_52 rfl
set_option maxRecDepth 100000 in
set_option maxHeartbeats 4000000 in
theorem c_X12_dissolve {l : Launch} {G : Gx} (hG : GOK G) (hl : l.stackTraces = false) (hs : SOK G)  (x1 : Int) (M : Mem) (r : Int) (Mr : Mem) (h : f_X12_dissolve x1 M = some (r, Mr)) : Cn l G mX12_dissolve 3 [vr G 139, vi x1] M (some (vi r)) Mr := by
  refine Cn_of2 (ls := [some (vr G 139), some (vi x1)]) hG hl kX12_dissolve rfl (Nat.le_of_ble_eq_true rfl) rfl rfl rfl rfl rfl (fun X eG el hX => ?_)
  subst eG; subst el
  unfold f_X12_dissolve at h
  refine x_aloadn hX dX12_dissolve_0 rfl ?_
  refine x_aloadn hX dX12_dissolve_1 rfl ?_
  refine x_iloadn hX dX12_dissolve_2 rfl ?_
  obtain ⟨r_1, er_1, h⟩ := cl1_of h
  refine x_callVi (t := 11) (As := [vi x1]) (rest := [vr (xG X) 139]) hX dX12_dissolve_3 (c_X12_isBatch (gk hX) (gl hX) hs x1 M _ er_1) kX12_isBatch vX12_isBatch w_1931 (st139 hs) rfl rfl rfl rfl (Nat.le_of_ble_eq_true rfl) z0 ?_
  refine x_if_eq (tgt := 13) hX dX12_dissolve_6 (by decide) rfl (fun hc => ?_) (fun hc => ?_)
  · replace h := (if_pos hc).symm.trans h
    refine x_iconst hX dX12_dissolve_13 ?_
    exact x_weak [true, true] rfl (tj_X12_dissolve_14 hX hs x1 1 M r Mr h)
  · replace h := (if_neg hc).symm.trans h
    refine x_iconst hX dX12_dissolve_9 ?_
    refine x_goto (tgt := 14) hX dX12_dissolve_10 (by decide) ?_
    exact x_weak [true, true] rfl (tj_X12_dissolve_14 hX hs x1 0 M r Mr h)
set_option maxRecDepth 100000 in
set_option maxHeartbeats 4000000 in
theorem tj_X12_batchOrders_14 {X : Cxt} (hX : Gd X RX12 cX12_batchOrders 2 (some .int) 3) (hs : SOK (xG X))   (x1 : Int) (y1 : Int) (M : Mem) (r : Int) (Mr : Mem) (h : j_X12_batchOrders_14 x1 y1 M = some (r, Mr)) : V X 0 0 (Qn X (some (vi r)) Mr) 14 [some (vr (xG X) 139), some (vi x1)] [vi y1, vr (xG X) 139] M := by
  unfold j_X12_batchOrders_14 at h
  obtain ⟨M_3, eM_3, h⟩ := bnd_of h
  refine x_putI hX dX12_batchOrders_14 fp_X12_70 rfl (st139 hs) (x_meq eM_3 ?_)
  refine x_aloadn hX dX12_batchOrders_17 rfl ?_
  refine x_getI hX dX12_batchOrders_18 fl_X12_70 rfl (st139 hs) ?_
  refine x_if_le (tgt := 28) hX dX12_batchOrders_21 (by decide) rfl (fun hc => ?_) (fun hc => ?_)
  · replace h := (if_pos hc).symm.trans h
    refine x_iconst hX dX12_batchOrders_24 ?_
    refine x_goto (tgt := 38) hX dX12_batchOrders_25 (by decide) ?_
    cases h
    exact x_iret hX dX12_batchOrders_38 rfl
  · replace h := (if_neg hc).symm.trans h
    refine x_aloadn hX dX12_batchOrders_28 rfl ?_
    refine x_getRj (j := 140) hX dX12_batchOrders_29 fl_X12_7 rfl (st139 hs) rfl ?_
    refine x_sipush hX dX12_batchOrders_32 sp_461 ?_
    refine x_iloadn hX dX12_batchOrders_35 rfl ?_
    refine x_iadd hX dX12_batchOrders_36 ?_
    obtain ⟨b_4, h⟩ := gi_of h
    refine x_iald hX dX12_batchOrders_37 (st140 hs) b_4 rfl ?_
    cases h
    exact x_iret hX dX12_batchOrders_38 rfl
set_option maxRecDepth 100000 in
set_option maxHeartbeats 4000000 in
theorem c_X12_batchOrders {l : Launch} {G : Gx} (hG : GOK G) (hl : l.stackTraces = false) (hs : SOK G)  (x1 : Int) (M : Mem) (r : Int) (Mr : Mem) (h : f_X12_batchOrders x1 M = some (r, Mr)) : Cn l G mX12_batchOrders 3 [vr G 139, vi x1] M (some (vi r)) Mr := by
  refine Cn_of2 (ls := [some (vr G 139), some (vi x1)]) hG hl kX12_batchOrders rfl (Nat.le_of_ble_eq_true rfl) rfl rfl rfl rfl rfl (fun X eG el hX => ?_)
  subst eG; subst el
  unfold f_X12_batchOrders at h
  refine x_aloadn hX dX12_batchOrders_0 rfl ?_
  refine x_aloadn hX dX12_batchOrders_1 rfl ?_
  refine x_iloadn hX dX12_batchOrders_2 rfl ?_
  obtain ⟨r_1, er_1, h⟩ := cl1_of h
  refine x_callVi (t := 11) (As := [vi x1]) (rest := [vr (xG X) 139]) hX dX12_batchOrders_3 (c_X12_isBatch (gk hX) (gl hX) hs x1 M _ er_1) kX12_isBatch vX12_isBatch w_1931 (st139 hs) rfl rfl rfl rfl (Nat.le_of_ble_eq_true rfl) z0 ?_
  refine x_if_eq (tgt := 13) hX dX12_batchOrders_6 (by decide) rfl (fun hc => ?_) (fun hc => ?_)
  · replace h := (if_pos hc).symm.trans h
    refine x_iconst hX dX12_batchOrders_13 ?_
    exact x_weak [true, true] rfl (tj_X12_batchOrders_14 hX hs x1 1 M r Mr h)
  · replace h := (if_neg hc).symm.trans h
    refine x_iconst hX dX12_batchOrders_9 ?_
    refine x_goto (tgt := 14) hX dX12_batchOrders_10 (by decide) ?_
    exact x_weak [true, true] rfl (tj_X12_batchOrders_14 hX hs x1 0 M r Mr h)
