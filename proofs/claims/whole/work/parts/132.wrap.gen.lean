def hhL_setLayout : List (Nat × Nat × Nat × Nat) := [(0, 12, 15, 13), (0, 12, 19, 15)]
theorem kL_setLayout : MKh mL_setLayout hhL_setLayout 5 := ⟨ws_of 958 (by decide +kernel) (by decide +kernel), w_149, by decide +kernel, Nat.le_of_ble_eq_true rfl, by decide +kernel, w_957⟩
set_option maxRecDepth 100000 in
set_option maxHeartbeats 4000000 in
theorem c_L_setLayout {l : Launch} {G : Gx} (hG : GOK G) (hl : l.stackTraces = false) (hs : SOK G) {a4 : Nat} (h4 : at_ G a4 4 1) (x1 : Int) (x2 : Int) (x3 : Int) (M : Mem) (r : Int) (Mr : Mem) (h : f_L_setLayout a4 x1 x2 x3 M = some (r, Mr)) : Cw l G mL_setLayout hhL_setLayout 4 4 24 [vr G 0, vi x1, vi x2, vi x3, vr G a4] M (some (vi r)) Mr := by
  refine Cw_of (ls := [some (vr G 0), some (vi x1), some (vi x2), some (vi x3), some (vr G a4), none]) hG hl kL_setLayout rfl (Nat.le_of_ble_eq_true rfl) rfl rfl rfl rfl rfl (fun X eG el hX hN => ?_)
  subst eG; subst el
  unfold f_L_setLayout at h
  refine x_aload hX dL_setLayout_0 rfl ?_
  refine x_iconst hX dL_setLayout_2 ?_
  refine x_aloadn hX dL_setLayout_3 rfl ?_
  refine x_iloadn hX dL_setLayout_4 rfl ?_
  refine x_iloadn hX dL_setLayout_5 rfl ?_
  refine x_iloadn hX dL_setLayout_6 rfl ?_
  rcases cx2_of h with ⟨e1, M1, ee, h⟩ | ⟨r1, M1, er, h⟩
  · by_cases q2 : e1 = 2
    · replace h := (if_pos q2).symm.trans h
      subst q2
      refine x_xVc (pre := []) (suf := [(0, 12, 19, 15)]) (z := (0, 12, 15, 13)) (x := 2) (t := 10) (As := [vi x1, vi x2, vi x3]) (rest := [vi 0, vr (xG X) a4]) hX hN rfl (fun q hq => by cases hq) (by decide) (by decide) w_959 dL_setLayout_7 (c_X11_setLayout (gk hX) (gl hX) hs x1 x2 x3 M _ _ ee) kX11_setLayout vX11_setLayout w_961 (st0 hs) rfl rfl rfl rfl (Nat.le_of_ble_eq_true rfl) (Nat.le_of_ble_eq_true rfl) (Nat.le_of_ble_eq_true rfl) (fun q => ?_)
      refine x_astoreq (ls' := [some (vr (xG X) 0), some (vi x1), some (vi x2), some (vi x3), some (vr (xG X) a4), some (.ref q)]) hX dL_setLayout_15 rfl rfl ?_
      refine x_iconst hX dL_setLayout_17 ?_
      cases h
      exact x_iretX hX dL_setLayout_18 (Nat.le_of_ble_eq_true rfl) (Nat.le_of_ble_eq_true rfl)
    · replace h := (if_neg q2).symm.trans h
      by_cases q1 : e1 = 1
      · replace h := (if_pos q1).symm.trans h
        subst q1
        refine x_xVc (pre := [(0, 12, 15, 13)]) (suf := []) (z := (0, 12, 19, 15)) (x := 1) (t := 10) (As := [vi x1, vi x2, vi x3]) (rest := [vi 0, vr (xG X) a4]) hX hN rfl (List.forall_mem_cons.mpr ⟨⟨by decide, "java/lang/IllegalArgumentException", by decide +kernel, by decide +kernel, w_959⟩, fun q hq => by cases hq⟩) (by decide) (by decide) w_960 dL_setLayout_7 (c_X11_setLayout (gk hX) (gl hX) hs x1 x2 x3 M _ _ ee) kX11_setLayout vX11_setLayout w_961 (st0 hs) rfl rfl rfl rfl (Nat.le_of_ble_eq_true rfl) (Nat.le_of_ble_eq_true rfl) (Nat.le_of_ble_eq_true rfl) (fun q => ?_)
        refine x_astoreq (ls' := [some (vr (xG X) 0), some (vi x1), some (vi x2), some (vi x3), some (vr (xG X) a4), some (.ref q)]) hX dL_setLayout_19 rfl rfl ?_
        refine x_iconst hX dL_setLayout_21 ?_
        cases h
        exact x_iretX hX dL_setLayout_22 (Nat.le_of_ble_eq_true rfl) (Nat.le_of_ble_eq_true rfl)
      · replace h := (if_neg q1).symm.trans h
        cases h
  · refine x_xVr (t := 10) (As := [vi x1, vi x2, vi x3]) (rest := [vi 0, vr (xG X) a4]) hX dL_setLayout_7 (c_X11_setLayout (gk hX) (gl hX) hs x1 x2 x3 M _ _ er) kX11_setLayout vX11_setLayout w_961 (st0 hs) rfl rfl rfl rfl (Nat.le_of_ble_eq_true rfl) (kh hN (Nat.le_of_ble_eq_true rfl) (Nat.le_of_ble_eq_true rfl)) ?_
    refine x_i2l hX dL_setLayout_10 ?_
    refine x_last hX dL_setLayout_11 h4 inc_0_1 ixc_0 ?_
    refine x_goto (tgt := 23) hX dL_setLayout_12 (by decide) ?_
    refine x_iconst hX dL_setLayout_23 ?_
    cases h
    exact x_iretX hX dL_setLayout_24 (Nat.le_of_ble_eq_true rfl) (Nat.le_of_ble_eq_true rfl)
def hhL_addItem : List (Nat × Nat × Nat × Nat) := [(0, 14, 17, 21), (0, 14, 21, 13), (0, 14, 25, 15)]
theorem kL_addItem : MKh mL_addItem hhL_addItem 6 := ⟨ws_of 1054 (by decide +kernel) (by decide +kernel), w_149, by decide +kernel, Nat.le_of_ble_eq_true rfl, by decide +kernel, w_1053⟩
set_option maxRecDepth 100000 in
set_option maxHeartbeats 4000000 in
theorem c_L_addItem {l : Launch} {G : Gx} (hG : GOK G) (hl : l.stackTraces = false) (hs : SOK G) {a5 : Nat} (h5 : at_ G a5 4 1) (x1 : Int) (x2 : Int) (x3 : Int) (x4 : Int) (M : Mem) (r : Int) (Mr : Mem) (h : f_L_addItem a5 x1 x2 x3 x4 M = some (r, Mr)) : Cw l G mL_addItem hhL_addItem 4 5 30 [vr G 0, vi x1, vi x2, vi x3, vi x4, vr G a5] M (some (vi r)) Mr := by
  refine Cw_of (ls := [some (vr G 0), some (vi x1), some (vi x2), some (vi x3), some (vi x4), some (vr G a5), none]) hG hl kL_addItem rfl (Nat.le_of_ble_eq_true rfl) rfl rfl rfl rfl rfl (fun X eG el hX hN => ?_)
  subst eG; subst el
  unfold f_L_addItem at h
  refine x_aload hX dL_addItem_0 rfl ?_
  refine x_iconst hX dL_addItem_2 ?_
  refine x_aloadn hX dL_addItem_3 rfl ?_
  refine x_iloadn hX dL_addItem_4 rfl ?_
  refine x_iloadn hX dL_addItem_5 rfl ?_
  refine x_iloadn hX dL_addItem_6 rfl ?_
  refine x_iload hX dL_addItem_7 rfl ?_
  rcases cx2_of h with ⟨e1, M1, ee, h⟩ | ⟨r1, M1, er, h⟩
  · by_cases q3 : e1 = 3
    · replace h := (if_pos q3).symm.trans h
      subst q3
      refine x_xVc (pre := []) (suf := [(0, 14, 21, 13), (0, 14, 25, 15)]) (z := (0, 14, 17, 21)) (x := 3) (t := 10) (As := [vi x1, vi x2, vi x3, vi x4]) (rest := [vi 0, vr (xG X) a5]) hX hN rfl (fun q hq => by cases hq) (by decide) (by decide) w_1055 dL_addItem_9 (c_X11_addItem (gk hX) (gl hX) hs x1 x2 x3 x4 M _ _ ee) kX11_addItem vX11_addItem w_1056 (st0 hs) rfl rfl rfl rfl (Nat.le_of_ble_eq_true rfl) (Nat.le_of_ble_eq_true rfl) (Nat.le_of_ble_eq_true rfl) (fun q => ?_)
      refine x_astoreq (ls' := [some (vr (xG X) 0), some (vi x1), some (vi x2), some (vi x3), some (vi x4), some (vr (xG X) a5), some (.ref q)]) hX dL_addItem_17 rfl rfl ?_
      refine x_iconst hX dL_addItem_19 ?_
      cases h
      exact x_iretX hX dL_addItem_20 (Nat.le_of_ble_eq_true rfl) (Nat.le_of_ble_eq_true rfl)
    · replace h := (if_neg q3).symm.trans h
      by_cases q2 : e1 = 2
      · replace h := (if_pos q2).symm.trans h
        subst q2
        refine x_xVc (pre := [(0, 14, 17, 21)]) (suf := [(0, 14, 25, 15)]) (z := (0, 14, 21, 13)) (x := 2) (t := 10) (As := [vi x1, vi x2, vi x3, vi x4]) (rest := [vi 0, vr (xG X) a5]) hX hN rfl (List.forall_mem_cons.mpr ⟨⟨by decide, "java/lang/IndexOutOfBoundsException", by decide +kernel, by decide +kernel, w_1055⟩, fun q hq => by cases hq⟩) (by decide) (by decide) w_959 dL_addItem_9 (c_X11_addItem (gk hX) (gl hX) hs x1 x2 x3 x4 M _ _ ee) kX11_addItem vX11_addItem w_1056 (st0 hs) rfl rfl rfl rfl (Nat.le_of_ble_eq_true rfl) (Nat.le_of_ble_eq_true rfl) (Nat.le_of_ble_eq_true rfl) (fun q => ?_)
        refine x_astoreq (ls' := [some (vr (xG X) 0), some (vi x1), some (vi x2), some (vi x3), some (vi x4), some (vr (xG X) a5), some (.ref q)]) hX dL_addItem_21 rfl rfl ?_
        refine x_iconst hX dL_addItem_23 ?_
        cases h
        exact x_iretX hX dL_addItem_24 (Nat.le_of_ble_eq_true rfl) (Nat.le_of_ble_eq_true rfl)
      · replace h := (if_neg q2).symm.trans h
        by_cases q1 : e1 = 1
        · replace h := (if_pos q1).symm.trans h
          subst q1
          refine x_xVc (pre := [(0, 14, 17, 21), (0, 14, 21, 13)]) (suf := []) (z := (0, 14, 25, 15)) (x := 1) (t := 10) (As := [vi x1, vi x2, vi x3, vi x4]) (rest := [vi 0, vr (xG X) a5]) hX hN rfl (List.forall_mem_cons.mpr ⟨⟨by decide, "java/lang/IndexOutOfBoundsException", by decide +kernel, by decide +kernel, w_1055⟩, List.forall_mem_cons.mpr ⟨⟨by decide, "java/lang/IllegalArgumentException", by decide +kernel, by decide +kernel, w_959⟩, fun q hq => by cases hq⟩⟩) (by decide) (by decide) w_960 dL_addItem_9 (c_X11_addItem (gk hX) (gl hX) hs x1 x2 x3 x4 M _ _ ee) kX11_addItem vX11_addItem w_1056 (st0 hs) rfl rfl rfl rfl (Nat.le_of_ble_eq_true rfl) (Nat.le_of_ble_eq_true rfl) (Nat.le_of_ble_eq_true rfl) (fun q => ?_)
          refine x_astoreq (ls' := [some (vr (xG X) 0), some (vi x1), some (vi x2), some (vi x3), some (vi x4), some (vr (xG X) a5), some (.ref q)]) hX dL_addItem_25 rfl rfl ?_
          refine x_iconst hX dL_addItem_27 ?_
          cases h
          exact x_iretX hX dL_addItem_28 (Nat.le_of_ble_eq_true rfl) (Nat.le_of_ble_eq_true rfl)
        · replace h := (if_neg q1).symm.trans h
          cases h
  · refine x_xVr (t := 10) (As := [vi x1, vi x2, vi x3, vi x4]) (rest := [vi 0, vr (xG X) a5]) hX dL_addItem_9 (c_X11_addItem (gk hX) (gl hX) hs x1 x2 x3 x4 M _ _ er) kX11_addItem vX11_addItem w_1056 (st0 hs) rfl rfl rfl rfl (Nat.le_of_ble_eq_true rfl) (kh hN (Nat.le_of_ble_eq_true rfl) (Nat.le_of_ble_eq_true rfl)) ?_
    refine x_i2l hX dL_addItem_12 ?_
    refine x_last hX dL_addItem_13 h5 inc_0_1 ixc_0 ?_
    refine x_goto (tgt := 29) hX dL_addItem_14 (by decide) ?_
    refine x_iconst hX dL_addItem_29 ?_
    cases h
    exact x_iretX hX dL_addItem_30 (Nat.le_of_ble_eq_true rfl) (Nat.le_of_ble_eq_true rfl)
def hhL_stock : List (Nat × Nat × Nat × Nat) := [(0, 9, 12, 21)]
theorem kL_stock : MKh mL_stock hhL_stock 3 := ⟨ws_of 1087 (by decide +kernel) (by decide +kernel), w_149, by decide +kernel, Nat.le_of_ble_eq_true rfl, by decide +kernel, w_1086⟩
set_option maxRecDepth 100000 in
set_option maxHeartbeats 4000000 in
theorem c_L_stock {l : Launch} {G : Gx} (hG : GOK G) (hl : l.stackTraces = false) (hs : SOK G) {a2 : Nat} (h2 : at_ G a2 4 1) (x1 : Int) (M : Mem) (r : Int) (Mr : Mem) (h : f_L_stock a2 x1 M = some (r, Mr)) : Cw l G mL_stock hhL_stock 4 1 6 [vr G 0, vi x1, vr G a2] M (some (vi r)) Mr := by
  refine Cw_of (ls := [some (vr G 0), some (vi x1), some (vr G a2), none]) hG hl kL_stock rfl (Nat.le_of_ble_eq_true rfl) rfl rfl rfl rfl rfl (fun X eG el hX hN => ?_)
  subst eG; subst el
  unfold f_L_stock at h
  refine x_aloadn hX dL_stock_0 rfl ?_
  refine x_iconst hX dL_stock_1 ?_
  refine x_aloadn hX dL_stock_2 rfl ?_
  refine x_iloadn hX dL_stock_3 rfl ?_
  rcases cx1_of h with ⟨e1, ee, h⟩ | ⟨r1, er, h⟩
  · by_cases q3 : e1 = 3
    · replace h := (if_pos q3).symm.trans h
      subst q3
      refine x_xVc (pre := []) (suf := []) (z := (0, 9, 12, 21)) (x := 3) (t := 10) (As := [vi x1]) (rest := [vi 0, vr (xG X) a2]) hX hN rfl (fun q hq => by cases hq) (by decide) (by decide) w_1055 dL_stock_4 (c_X11_stock (gk hX) (gl hX) hs x1 M _ ee) kX11_stock vX11_stock w_1088 (st0 hs) rfl rfl rfl rfl (Nat.le_of_ble_eq_true rfl) (Nat.le_of_ble_eq_true rfl) (Nat.le_of_ble_eq_true rfl) (fun q => ?_)
      refine x_astoreqn (ls' := [some (vr (xG X) 0), some (vi x1), some (vr (xG X) a2), some (.ref q)]) hX dL_stock_12 rfl rfl ?_
      refine x_iconst hX dL_stock_13 ?_
      cases h
      exact x_iretX hX dL_stock_14 (Nat.le_of_ble_eq_true rfl) (Nat.le_of_ble_eq_true rfl)
    · replace h := (if_neg q3).symm.trans h
      cases h
  · refine x_xVr (t := 10) (As := [vi x1]) (rest := [vi 0, vr (xG X) a2]) hX dL_stock_4 (c_X11_stock (gk hX) (gl hX) hs x1 M _ er) kX11_stock vX11_stock w_1088 (st0 hs) rfl rfl rfl rfl (Nat.le_of_ble_eq_true rfl) (kh hN (Nat.le_of_ble_eq_true rfl) (Nat.le_of_ble_eq_true rfl)) ?_
    refine x_i2l hX dL_stock_7 ?_
    refine x_last hX dL_stock_8 h2 inc_0_1 ixc_0 ?_
    refine x_goto (tgt := 15) hX dL_stock_9 (by decide) ?_
    refine x_iconst hX dL_stock_15 ?_
    cases h
    exact x_iretX hX dL_stock_16 (Nat.le_of_ble_eq_true rfl) (Nat.le_of_ble_eq_true rfl)
def hhL_restock : List (Nat × Nat × Nat × Nat) := [(0, 10, 13, 21), (0, 10, 17, 13)]
theorem kL_restock : MKh mL_restock hhL_restock 4 := ⟨ws_of 1098 (by decide +kernel) (by decide +kernel), w_149, by decide +kernel, Nat.le_of_ble_eq_true rfl, by decide +kernel, w_1097⟩
set_option maxRecDepth 100000 in
set_option maxHeartbeats 4000000 in
theorem c_L_restock {l : Launch} {G : Gx} (hG : GOK G) (hl : l.stackTraces = false) (hs : SOK G) {a3 : Nat} (h3 : at_ G a3 4 1) (x1 : Int) (x2 : Int) (M : Mem) (r : Int) (Mr : Mem) (h : f_L_restock a3 x1 x2 M = some (r, Mr)) : Cw l G mL_restock hhL_restock 4 2 12 [vr G 0, vi x1, vi x2, vr G a3] M (some (vi r)) Mr := by
  refine Cw_of (ls := [some (vr G 0), some (vi x1), some (vi x2), some (vr G a3), none]) hG hl kL_restock rfl (Nat.le_of_ble_eq_true rfl) rfl rfl rfl rfl rfl (fun X eG el hX hN => ?_)
  subst eG; subst el
  unfold f_L_restock at h
  refine x_aloadn hX dL_restock_0 rfl ?_
  refine x_iconst hX dL_restock_1 ?_
  refine x_aloadn hX dL_restock_2 rfl ?_
  refine x_iloadn hX dL_restock_3 rfl ?_
  refine x_iloadn hX dL_restock_4 rfl ?_
  rcases cx2_of h with ⟨e1, M1, ee, h⟩ | ⟨r1, M1, er, h⟩
  · by_cases q3 : e1 = 3
    · replace h := (if_pos q3).symm.trans h
      subst q3
      refine x_xVc (pre := []) (suf := [(0, 10, 17, 13)]) (z := (0, 10, 13, 21)) (x := 3) (t := 10) (As := [vi x1, vi x2]) (rest := [vi 0, vr (xG X) a3]) hX hN rfl (fun q hq => by cases hq) (by decide) (by decide) w_1055 dL_restock_5 (c_X11_restock (gk hX) (gl hX) hs x1 x2 M _ _ ee) kX11_restock vX11_restock w_1099 (st0 hs) rfl rfl rfl rfl (Nat.le_of_ble_eq_true rfl) (Nat.le_of_ble_eq_true rfl) (Nat.le_of_ble_eq_true rfl) (fun q => ?_)
      refine x_astoreq (ls' := [some (vr (xG X) 0), some (vi x1), some (vi x2), some (vr (xG X) a3), some (.ref q)]) hX dL_restock_13 rfl rfl ?_
      refine x_iconst hX dL_restock_15 ?_
      cases h
      exact x_iretX hX dL_restock_16 (Nat.le_of_ble_eq_true rfl) (Nat.le_of_ble_eq_true rfl)
    · replace h := (if_neg q3).symm.trans h
      by_cases q2 : e1 = 2
      · replace h := (if_pos q2).symm.trans h
        subst q2
        refine x_xVc (pre := [(0, 10, 13, 21)]) (suf := []) (z := (0, 10, 17, 13)) (x := 2) (t := 10) (As := [vi x1, vi x2]) (rest := [vi 0, vr (xG X) a3]) hX hN rfl (List.forall_mem_cons.mpr ⟨⟨by decide, "java/lang/IndexOutOfBoundsException", by decide +kernel, by decide +kernel, w_1055⟩, fun q hq => by cases hq⟩) (by decide) (by decide) w_959 dL_restock_5 (c_X11_restock (gk hX) (gl hX) hs x1 x2 M _ _ ee) kX11_restock vX11_restock w_1099 (st0 hs) rfl rfl rfl rfl (Nat.le_of_ble_eq_true rfl) (Nat.le_of_ble_eq_true rfl) (Nat.le_of_ble_eq_true rfl) (fun q => ?_)
        refine x_astoreq (ls' := [some (vr (xG X) 0), some (vi x1), some (vi x2), some (vr (xG X) a3), some (.ref q)]) hX dL_restock_17 rfl rfl ?_
        refine x_iconst hX dL_restock_19 ?_
        cases h
        exact x_iretX hX dL_restock_20 (Nat.le_of_ble_eq_true rfl) (Nat.le_of_ble_eq_true rfl)
      · replace h := (if_neg q2).symm.trans h
        cases h
  · refine x_xVr (t := 10) (As := [vi x1, vi x2]) (rest := [vi 0, vr (xG X) a3]) hX dL_restock_5 (c_X11_restock (gk hX) (gl hX) hs x1 x2 M _ _ er) kX11_restock vX11_restock w_1099 (st0 hs) rfl rfl rfl rfl (Nat.le_of_ble_eq_true rfl) (kh hN (Nat.le_of_ble_eq_true rfl) (Nat.le_of_ble_eq_true rfl)) ?_
    refine x_i2l hX dL_restock_8 ?_
    refine x_last hX dL_restock_9 h3 inc_0_1 ixc_0 ?_
    refine x_goto (tgt := 21) hX dL_restock_10 (by decide) ?_
    refine x_iconst hX dL_restock_21 ?_
    cases h
    exact x_iretX hX dL_restock_22 (Nat.le_of_ble_eq_true rfl) (Nat.le_of_ble_eq_true rfl)
def hhL_addOrder : List (Nat × Nat × Nat × Nat) := [(0, 9, 12, 13), (0, 9, 15, 15)]
theorem kL_addOrder : MKh mL_addOrder hhL_addOrder 3 := ⟨ws_of 1105 (by decide +kernel) (by decide +kernel), w_149, by decide +kernel, Nat.le_of_ble_eq_true rfl, by decide +kernel, w_1104⟩
set_option maxRecDepth 100000 in
set_option maxHeartbeats 4000000 in
theorem c_L_addOrder {l : Launch} {G : Gx} (hG : GOK G) (hl : l.stackTraces = false) (hs : SOK G) {a2 : Nat} (h2 : at_ G a2 4 1) (x1 : Int) (M : Mem) (r : Int) (Mr : Mem) (h : f_L_addOrder a2 x1 M = some (r, Mr)) : Cw l G mL_addOrder hhL_addOrder 3 2 12 [vr G 0, vi x1, vr G a2] M (some (vi r)) Mr := by
  refine Cw_of (ls := [some (vr G 0), some (vi x1), some (vr G a2), none]) hG hl kL_addOrder rfl (Nat.le_of_ble_eq_true rfl) rfl rfl rfl rfl rfl (fun X eG el hX hN => ?_)
  subst eG; subst el
  unfold f_L_addOrder at h
  refine x_aloadn hX dL_addOrder_0 rfl ?_
  refine x_iconst hX dL_addOrder_1 ?_
  refine x_aloadn hX dL_addOrder_2 rfl ?_
  refine x_iloadn hX dL_addOrder_3 rfl ?_
  rcases cx2_of h with ⟨e1, M1, ee, h⟩ | ⟨r1, M1, er, h⟩
  · by_cases q2 : e1 = 2
    · replace h := (if_pos q2).symm.trans h
      subst q2
      refine x_xVc (pre := []) (suf := [(0, 9, 15, 15)]) (z := (0, 9, 12, 13)) (x := 2) (t := 10) (As := [vi x1]) (rest := [vi 0, vr (xG X) a2]) hX hN rfl (fun q hq => by cases hq) (by decide) (by decide) w_959 dL_addOrder_4 (c_X11_addOrder (gk hX) (gl hX) hs x1 M _ _ ee) kX11_addOrder vX11_addOrder w_1106 (st0 hs) rfl rfl rfl rfl (Nat.le_of_ble_eq_true rfl) (Nat.le_of_ble_eq_true rfl) (Nat.le_of_ble_eq_true rfl) (fun q => ?_)
      refine x_astoreqn (ls' := [some (vr (xG X) 0), some (vi x1), some (vr (xG X) a2), some (.ref q)]) hX dL_addOrder_12 rfl rfl ?_
      refine x_iconst hX dL_addOrder_13 ?_
      cases h
      exact x_iretX hX dL_addOrder_14 (Nat.le_of_ble_eq_true rfl) (Nat.le_of_ble_eq_true rfl)
    · replace h := (if_neg q2).symm.trans h
      by_cases q1 : e1 = 1
      · replace h := (if_pos q1).symm.trans h
        subst q1
        refine x_xVc (pre := [(0, 9, 12, 13)]) (suf := []) (z := (0, 9, 15, 15)) (x := 1) (t := 10) (As := [vi x1]) (rest := [vi 0, vr (xG X) a2]) hX hN rfl (List.forall_mem_cons.mpr ⟨⟨by decide, "java/lang/IllegalArgumentException", by decide +kernel, by decide +kernel, w_959⟩, fun q hq => by cases hq⟩) (by decide) (by decide) w_960 dL_addOrder_4 (c_X11_addOrder (gk hX) (gl hX) hs x1 M _ _ ee) kX11_addOrder vX11_addOrder w_1106 (st0 hs) rfl rfl rfl rfl (Nat.le_of_ble_eq_true rfl) (Nat.le_of_ble_eq_true rfl) (Nat.le_of_ble_eq_true rfl) (fun q => ?_)
        refine x_astoreqn (ls' := [some (vr (xG X) 0), some (vi x1), some (vr (xG X) a2), some (.ref q)]) hX dL_addOrder_15 rfl rfl ?_
        refine x_iconst hX dL_addOrder_16 ?_
        cases h
        exact x_iretX hX dL_addOrder_17 (Nat.le_of_ble_eq_true rfl) (Nat.le_of_ble_eq_true rfl)
      · replace h := (if_neg q1).symm.trans h
        cases h
  · refine x_xVr (t := 10) (As := [vi x1]) (rest := [vi 0, vr (xG X) a2]) hX dL_addOrder_4 (c_X11_addOrder (gk hX) (gl hX) hs x1 M _ _ er) kX11_addOrder vX11_addOrder w_1106 (st0 hs) rfl rfl rfl rfl (Nat.le_of_ble_eq_true rfl) (kh hN (Nat.le_of_ble_eq_true rfl) (Nat.le_of_ble_eq_true rfl)) ?_
    refine x_i2l hX dL_addOrder_7 ?_
    refine x_last hX dL_addOrder_8 h2 inc_0_1 ixc_0 ?_
    refine x_goto (tgt := 18) hX dL_addOrder_9 (by decide) ?_
    refine x_iconst hX dL_addOrder_18 ?_
    cases h
    exact x_iretX hX dL_addOrder_19 (Nat.le_of_ble_eq_true rfl) (Nat.le_of_ble_eq_true rfl)
def hhL_addLine : List (Nat × Nat × Nat × Nat) := [(0, 12, 15, 21), (0, 12, 19, 13), (0, 12, 23, 15)]
theorem kL_addLine : MKh mL_addLine hhL_addLine 5 := ⟨ws_of 1118 (by decide +kernel) (by decide +kernel), w_149, by decide +kernel, Nat.le_of_ble_eq_true rfl, by decide +kernel, w_1117⟩
set_option maxRecDepth 100000 in
set_option maxHeartbeats 4000000 in
theorem c_L_addLine {l : Launch} {G : Gx} (hG : GOK G) (hl : l.stackTraces = false) (hs : SOK G) {a4 : Nat} (h4 : at_ G a4 4 1) (x1 : Int) (x2 : Int) (x3 : Int) (M : Mem) (r : Int) (Mr : Mem) (h : f_L_addLine a4 x1 x2 x3 M = some (r, Mr)) : Cw l G mL_addLine hhL_addLine 4 4 24 [vr G 0, vi x1, vi x2, vi x3, vr G a4] M (some (vi r)) Mr := by
  refine Cw_of (ls := [some (vr G 0), some (vi x1), some (vi x2), some (vi x3), some (vr G a4), none]) hG hl kL_addLine rfl (Nat.le_of_ble_eq_true rfl) rfl rfl rfl rfl rfl (fun X eG el hX hN => ?_)
  subst eG; subst el
  unfold f_L_addLine at h
  refine x_aload hX dL_addLine_0 rfl ?_
  refine x_iconst hX dL_addLine_2 ?_
  refine x_aloadn hX dL_addLine_3 rfl ?_
  refine x_iloadn hX dL_addLine_4 rfl ?_
  refine x_iloadn hX dL_addLine_5 rfl ?_
  refine x_iloadn hX dL_addLine_6 rfl ?_
  rcases cx2_of h with ⟨e1, M1, ee, h⟩ | ⟨r1, M1, er, h⟩
  · by_cases q3 : e1 = 3
    · replace h := (if_pos q3).symm.trans h
      subst q3
      refine x_xVc (pre := []) (suf := [(0, 12, 19, 13), (0, 12, 23, 15)]) (z := (0, 12, 15, 21)) (x := 3) (t := 10) (As := [vi x1, vi x2, vi x3]) (rest := [vi 0, vr (xG X) a4]) hX hN rfl (fun q hq => by cases hq) (by decide) (by decide) w_1055 dL_addLine_7 (c_X11_addLine (gk hX) (gl hX) hs x1 x2 x3 M _ _ ee) kX11_addLine vX11_addLine w_1119 (st0 hs) rfl rfl rfl rfl (Nat.le_of_ble_eq_true rfl) (Nat.le_of_ble_eq_true rfl) (Nat.le_of_ble_eq_true rfl) (fun q => ?_)
      refine x_astoreq (ls' := [some (vr (xG X) 0), some (vi x1), some (vi x2), some (vi x3), some (vr (xG X) a4), some (.ref q)]) hX dL_addLine_15 rfl rfl ?_
      refine x_iconst hX dL_addLine_17 ?_
      cases h
      exact x_iretX hX dL_addLine_18 (Nat.le_of_ble_eq_true rfl) (Nat.le_of_ble_eq_true rfl)
    · replace h := (if_neg q3).symm.trans h
      by_cases q2 : e1 = 2
      · replace h := (if_pos q2).symm.trans h
        subst q2
        refine x_xVc (pre := [(0, 12, 15, 21)]) (suf := [(0, 12, 23, 15)]) (z := (0, 12, 19, 13)) (x := 2) (t := 10) (As := [vi x1, vi x2, vi x3]) (rest := [vi 0, vr (xG X) a4]) hX hN rfl (List.forall_mem_cons.mpr ⟨⟨by decide, "java/lang/IndexOutOfBoundsException", by decide +kernel, by decide +kernel, w_1055⟩, fun q hq => by cases hq⟩) (by decide) (by decide) w_959 dL_addLine_7 (c_X11_addLine (gk hX) (gl hX) hs x1 x2 x3 M _ _ ee) kX11_addLine vX11_addLine w_1119 (st0 hs) rfl rfl rfl rfl (Nat.le_of_ble_eq_true rfl) (Nat.le_of_ble_eq_true rfl) (Nat.le_of_ble_eq_true rfl) (fun q => ?_)
        refine x_astoreq (ls' := [some (vr (xG X) 0), some (vi x1), some (vi x2), some (vi x3), some (vr (xG X) a4), some (.ref q)]) hX dL_addLine_19 rfl rfl ?_
        refine x_iconst hX dL_addLine_21 ?_
        cases h
        exact x_iretX hX dL_addLine_22 (Nat.le_of_ble_eq_true rfl) (Nat.le_of_ble_eq_true rfl)
      · replace h := (if_neg q2).symm.trans h
        by_cases q1 : e1 = 1
        · replace h := (if_pos q1).symm.trans h
          subst q1
          refine x_xVc (pre := [(0, 12, 15, 21), (0, 12, 19, 13)]) (suf := []) (z := (0, 12, 23, 15)) (x := 1) (t := 10) (As := [vi x1, vi x2, vi x3]) (rest := [vi 0, vr (xG X) a4]) hX hN rfl (List.forall_mem_cons.mpr ⟨⟨by decide, "java/lang/IndexOutOfBoundsException", by decide +kernel, by decide +kernel, w_1055⟩, List.forall_mem_cons.mpr ⟨⟨by decide, "java/lang/IllegalArgumentException", by decide +kernel, by decide +kernel, w_959⟩, fun q hq => by cases hq⟩⟩) (by decide) (by decide) w_960 dL_addLine_7 (c_X11_addLine (gk hX) (gl hX) hs x1 x2 x3 M _ _ ee) kX11_addLine vX11_addLine w_1119 (st0 hs) rfl rfl rfl rfl (Nat.le_of_ble_eq_true rfl) (Nat.le_of_ble_eq_true rfl) (Nat.le_of_ble_eq_true rfl) (fun q => ?_)
          refine x_astoreq (ls' := [some (vr (xG X) 0), some (vi x1), some (vi x2), some (vi x3), some (vr (xG X) a4), some (.ref q)]) hX dL_addLine_23 rfl rfl ?_
          refine x_iconst hX dL_addLine_25 ?_
          cases h
          exact x_iretX hX dL_addLine_26 (Nat.le_of_ble_eq_true rfl) (Nat.le_of_ble_eq_true rfl)
        · replace h := (if_neg q1).symm.trans h
          cases h
  · refine x_xVr (t := 10) (As := [vi x1, vi x2, vi x3]) (rest := [vi 0, vr (xG X) a4]) hX dL_addLine_7 (c_X11_addLine (gk hX) (gl hX) hs x1 x2 x3 M _ _ er) kX11_addLine vX11_addLine w_1119 (st0 hs) rfl rfl rfl rfl (Nat.le_of_ble_eq_true rfl) (kh hN (Nat.le_of_ble_eq_true rfl) (Nat.le_of_ble_eq_true rfl)) ?_
    refine x_i2l hX dL_addLine_10 ?_
    refine x_last hX dL_addLine_11 h4 inc_0_1 ixc_0 ?_
    refine x_goto (tgt := 27) hX dL_addLine_12 (by decide) ?_
    refine x_iconst hX dL_addLine_27 ?_
    cases h
    exact x_iretX hX dL_addLine_28 (Nat.le_of_ble_eq_true rfl) (Nat.le_of_ble_eq_true rfl)
def hhL_orderState : List (Nat × Nat × Nat × Nat) := [(0, 9, 12, 21)]
theorem kL_orderState : MKh mL_orderState hhL_orderState 3 := ⟨ws_of 1132 (by decide +kernel) (by decide +kernel), w_149, by decide +kernel, Nat.le_of_ble_eq_true rfl, by decide +kernel, w_1131⟩
set_option maxRecDepth 100000 in
set_option maxHeartbeats 4000000 in
theorem c_L_orderState {l : Launch} {G : Gx} (hG : GOK G) (hl : l.stackTraces = false) (hs : SOK G) {a2 : Nat} (h2 : at_ G a2 4 1) (x1 : Int) (M : Mem) (r : Int) (Mr : Mem) (h : f_L_orderState a2 x1 M = some (r, Mr)) : Cw l G mL_orderState hhL_orderState 4 1 6 [vr G 0, vi x1, vr G a2] M (some (vi r)) Mr := by
  refine Cw_of (ls := [some (vr G 0), some (vi x1), some (vr G a2), none]) hG hl kL_orderState rfl (Nat.le_of_ble_eq_true rfl) rfl rfl rfl rfl rfl (fun X eG el hX hN => ?_)
  subst eG; subst el
  unfold f_L_orderState at h
  refine x_aloadn hX dL_orderState_0 rfl ?_
  refine x_iconst hX dL_orderState_1 ?_
  refine x_aloadn hX dL_orderState_2 rfl ?_
  refine x_iloadn hX dL_orderState_3 rfl ?_
  rcases cx1_of h with ⟨e1, ee, h⟩ | ⟨r1, er, h⟩
  · by_cases q3 : e1 = 3
    · replace h := (if_pos q3).symm.trans h
      subst q3
      refine x_xVc (pre := []) (suf := []) (z := (0, 9, 12, 21)) (x := 3) (t := 10) (As := [vi x1]) (rest := [vi 0, vr (xG X) a2]) hX hN rfl (fun q hq => by cases hq) (by decide) (by decide) w_1055 dL_orderState_4 (c_X11_orderState (gk hX) (gl hX) hs x1 M _ ee) kX11_orderState vX11_orderState w_1133 (st0 hs) rfl rfl rfl rfl (Nat.le_of_ble_eq_true rfl) (Nat.le_of_ble_eq_true rfl) (Nat.le_of_ble_eq_true rfl) (fun q => ?_)
      refine x_astoreqn (ls' := [some (vr (xG X) 0), some (vi x1), some (vr (xG X) a2), some (.ref q)]) hX dL_orderState_12 rfl rfl ?_
      refine x_iconst hX dL_orderState_13 ?_
      cases h
      exact x_iretX hX dL_orderState_14 (Nat.le_of_ble_eq_true rfl) (Nat.le_of_ble_eq_true rfl)
    · replace h := (if_neg q3).symm.trans h
      cases h
  · refine x_xVr (t := 10) (As := [vi x1]) (rest := [vi 0, vr (xG X) a2]) hX dL_orderState_4 (c_X11_orderState (gk hX) (gl hX) hs x1 M _ er) kX11_orderState vX11_orderState w_1133 (st0 hs) rfl rfl rfl rfl (Nat.le_of_ble_eq_true rfl) (kh hN (Nat.le_of_ble_eq_true rfl) (Nat.le_of_ble_eq_true rfl)) ?_
    refine x_i2l hX dL_orderState_7 ?_
    refine x_last hX dL_orderState_8 h2 inc_0_1 ixc_0 ?_
    refine x_goto (tgt := 15) hX dL_orderState_9 (by decide) ?_
    refine x_iconst hX dL_orderState_15 ?_
    cases h
    exact x_iretX hX dL_orderState_16 (Nat.le_of_ble_eq_true rfl) (Nat.le_of_ble_eq_true rfl)
def hhL_lineCount : List (Nat × Nat × Nat × Nat) := [(0, 9, 12, 21)]
theorem kL_lineCount : MKh mL_lineCount hhL_lineCount 3 := ⟨ws_of 1139 (by decide +kernel) (by decide +kernel), w_149, by decide +kernel, Nat.le_of_ble_eq_true rfl, by decide +kernel, w_1138⟩
set_option maxRecDepth 100000 in
set_option maxHeartbeats 4000000 in
theorem c_L_lineCount {l : Launch} {G : Gx} (hG : GOK G) (hl : l.stackTraces = false) (hs : SOK G) {a2 : Nat} (h2 : at_ G a2 4 1) (x1 : Int) (M : Mem) (r : Int) (Mr : Mem) (h : f_L_lineCount a2 x1 M = some (r, Mr)) : Cw l G mL_lineCount hhL_lineCount 4 1 6 [vr G 0, vi x1, vr G a2] M (some (vi r)) Mr := by
  refine Cw_of (ls := [some (vr G 0), some (vi x1), some (vr G a2), none]) hG hl kL_lineCount rfl (Nat.le_of_ble_eq_true rfl) rfl rfl rfl rfl rfl (fun X eG el hX hN => ?_)
  subst eG; subst el
  unfold f_L_lineCount at h
  refine x_aloadn hX dL_lineCount_0 rfl ?_
  refine x_iconst hX dL_lineCount_1 ?_
  refine x_aloadn hX dL_lineCount_2 rfl ?_
  refine x_iloadn hX dL_lineCount_3 rfl ?_
  rcases cx1_of h with ⟨e1, ee, h⟩ | ⟨r1, er, h⟩
  · by_cases q3 : e1 = 3
    · replace h := (if_pos q3).symm.trans h
      subst q3
      refine x_xVc (pre := []) (suf := []) (z := (0, 9, 12, 21)) (x := 3) (t := 10) (As := [vi x1]) (rest := [vi 0, vr (xG X) a2]) hX hN rfl (fun q hq => by cases hq) (by decide) (by decide) w_1055 dL_lineCount_4 (c_X11_lineCount (gk hX) (gl hX) hs x1 M _ ee) kX11_lineCount vX11_lineCount w_1140 (st0 hs) rfl rfl rfl rfl (Nat.le_of_ble_eq_true rfl) (Nat.le_of_ble_eq_true rfl) (Nat.le_of_ble_eq_true rfl) (fun q => ?_)
      refine x_astoreqn (ls' := [some (vr (xG X) 0), some (vi x1), some (vr (xG X) a2), some (.ref q)]) hX dL_lineCount_12 rfl rfl ?_
      refine x_iconst hX dL_lineCount_13 ?_
      cases h
      exact x_iretX hX dL_lineCount_14 (Nat.le_of_ble_eq_true rfl) (Nat.le_of_ble_eq_true rfl)
    · replace h := (if_neg q3).symm.trans h
      cases h
  · refine x_xVr (t := 10) (As := [vi x1]) (rest := [vi 0, vr (xG X) a2]) hX dL_lineCount_4 (c_X11_lineCount (gk hX) (gl hX) hs x1 M _ er) kX11_lineCount vX11_lineCount w_1140 (st0 hs) rfl rfl rfl rfl (Nat.le_of_ble_eq_true rfl) (kh hN (Nat.le_of_ble_eq_true rfl) (Nat.le_of_ble_eq_true rfl)) ?_
    refine x_i2l hX dL_lineCount_7 ?_
    refine x_last hX dL_lineCount_8 h2 inc_0_1 ixc_0 ?_
    refine x_goto (tgt := 15) hX dL_lineCount_9 (by decide) ?_
    refine x_iconst hX dL_lineCount_15 ?_
    cases h
    exact x_iretX hX dL_lineCount_16 (Nat.le_of_ble_eq_true rfl) (Nat.le_of_ble_eq_true rfl)
def hhL_due : List (Nat × Nat × Nat × Nat) := [(0, 9, 12, 21)]
theorem kL_due : MKh mL_due hhL_due 3 := ⟨ws_of 1146 (by decide +kernel) (by decide +kernel), w_149, by decide +kernel, Nat.le_of_ble_eq_true rfl, by decide +kernel, w_1145⟩
set_option maxRecDepth 100000 in
set_option maxHeartbeats 4000000 in
theorem c_L_due {l : Launch} {G : Gx} (hG : GOK G) (hl : l.stackTraces = false) (hs : SOK G) {a2 : Nat} (h2 : at_ G a2 4 1) (x1 : Int) (M : Mem) (r : Int) (Mr : Mem) (h : f_L_due a2 x1 M = some (r, Mr)) : Cw l G mL_due hhL_due 4 1 6 [vr G 0, vi x1, vr G a2] M (some (vi r)) Mr := by
  refine Cw_of (ls := [some (vr G 0), some (vi x1), some (vr G a2), none]) hG hl kL_due rfl (Nat.le_of_ble_eq_true rfl) rfl rfl rfl rfl rfl (fun X eG el hX hN => ?_)
  subst eG; subst el
  unfold f_L_due at h
  refine x_aloadn hX dL_due_0 rfl ?_
  refine x_iconst hX dL_due_1 ?_
  refine x_aloadn hX dL_due_2 rfl ?_
  refine x_iloadn hX dL_due_3 rfl ?_
  rcases cx1_of h with ⟨e1, ee, h⟩ | ⟨r1, er, h⟩
  · by_cases q3 : e1 = 3
    · replace h := (if_pos q3).symm.trans h
      subst q3
      refine x_xVc (pre := []) (suf := []) (z := (0, 9, 12, 21)) (x := 3) (t := 10) (As := [vi x1]) (rest := [vi 0, vr (xG X) a2]) hX hN rfl (fun q hq => by cases hq) (by decide) (by decide) w_1055 dL_due_4 (c_X11_due (gk hX) (gl hX) hs x1 M _ ee) kX11_due vX11_due w_1147 (st0 hs) rfl rfl rfl rfl (Nat.le_of_ble_eq_true rfl) (Nat.le_of_ble_eq_true rfl) (Nat.le_of_ble_eq_true rfl) (fun q => ?_)
      refine x_astoreqn (ls' := [some (vr (xG X) 0), some (vi x1), some (vr (xG X) a2), some (.ref q)]) hX dL_due_12 rfl rfl ?_
      refine x_iconst hX dL_due_13 ?_
      cases h
      exact x_iretX hX dL_due_14 (Nat.le_of_ble_eq_true rfl) (Nat.le_of_ble_eq_true rfl)
    · replace h := (if_neg q3).symm.trans h
      cases h
  · refine x_xVr (t := 10) (As := [vi x1]) (rest := [vi 0, vr (xG X) a2]) hX dL_due_4 (c_X11_due (gk hX) (gl hX) hs x1 M _ er) kX11_due vX11_due w_1147 (st0 hs) rfl rfl rfl rfl (Nat.le_of_ble_eq_true rfl) (kh hN (Nat.le_of_ble_eq_true rfl) (Nat.le_of_ble_eq_true rfl)) ?_
    refine x_i2l hX dL_due_7 ?_
    refine x_last hX dL_due_8 h2 inc_0_1 ixc_0 ?_
    refine x_goto (tgt := 15) hX dL_due_9 (by decide) ?_
    refine x_iconst hX dL_due_15 ?_
    cases h
    exact x_iretX hX dL_due_16 (Nat.le_of_ble_eq_true rfl) (Nat.le_of_ble_eq_true rfl)
def hhL_setDue : List (Nat × Nat × Nat × Nat) := [(0, 10, 13, 21), (0, 10, 17, 13), (0, 10, 21, 15)]
theorem kL_setDue : MKh mL_setDue hhL_setDue 4 := ⟨ws_of 1153 (by decide +kernel) (by decide +kernel), w_149, by decide +kernel, Nat.le_of_ble_eq_true rfl, by decide +kernel, w_1152⟩
set_option maxRecDepth 100000 in
set_option maxHeartbeats 4000000 in
theorem c_L_setDue {l : Launch} {G : Gx} (hG : GOK G) (hl : l.stackTraces = false) (hs : SOK G) {a3 : Nat} (h3 : at_ G a3 4 1) (x1 : Int) (x2 : Int) (M : Mem) (r : Int) (Mr : Mem) (h : f_L_setDue a3 x1 x2 M = some (r, Mr)) : Cw l G mL_setDue hhL_setDue 4 3 18 [vr G 0, vi x1, vi x2, vr G a3] M (some (vi r)) Mr := by
  refine Cw_of (ls := [some (vr G 0), some (vi x1), some (vi x2), some (vr G a3), none]) hG hl kL_setDue rfl (Nat.le_of_ble_eq_true rfl) rfl rfl rfl rfl rfl (fun X eG el hX hN => ?_)
  subst eG; subst el
  unfold f_L_setDue at h
  refine x_aloadn hX dL_setDue_0 rfl ?_
  refine x_iconst hX dL_setDue_1 ?_
  refine x_aloadn hX dL_setDue_2 rfl ?_
  refine x_iloadn hX dL_setDue_3 rfl ?_
  refine x_iloadn hX dL_setDue_4 rfl ?_
  rcases cx2_of h with ⟨e1, M1, ee, h⟩ | ⟨r1, M1, er, h⟩
  · by_cases q3 : e1 = 3
    · replace h := (if_pos q3).symm.trans h
      subst q3
      refine x_xVc (pre := []) (suf := [(0, 10, 17, 13), (0, 10, 21, 15)]) (z := (0, 10, 13, 21)) (x := 3) (t := 10) (As := [vi x1, vi x2]) (rest := [vi 0, vr (xG X) a3]) hX hN rfl (fun q hq => by cases hq) (by decide) (by decide) w_1055 dL_setDue_5 (c_X11_setDue (gk hX) (gl hX) hs x1 x2 M _ _ ee) kX11_setDue vX11_setDue w_1154 (st0 hs) rfl rfl rfl rfl (Nat.le_of_ble_eq_true rfl) (Nat.le_of_ble_eq_true rfl) (Nat.le_of_ble_eq_true rfl) (fun q => ?_)
      refine x_astoreq (ls' := [some (vr (xG X) 0), some (vi x1), some (vi x2), some (vr (xG X) a3), some (.ref q)]) hX dL_setDue_13 rfl rfl ?_
      refine x_iconst hX dL_setDue_15 ?_
      cases h
      exact x_iretX hX dL_setDue_16 (Nat.le_of_ble_eq_true rfl) (Nat.le_of_ble_eq_true rfl)
    · replace h := (if_neg q3).symm.trans h
      by_cases q2 : e1 = 2
      · replace h := (if_pos q2).symm.trans h
        subst q2
        refine x_xVc (pre := [(0, 10, 13, 21)]) (suf := [(0, 10, 21, 15)]) (z := (0, 10, 17, 13)) (x := 2) (t := 10) (As := [vi x1, vi x2]) (rest := [vi 0, vr (xG X) a3]) hX hN rfl (List.forall_mem_cons.mpr ⟨⟨by decide, "java/lang/IndexOutOfBoundsException", by decide +kernel, by decide +kernel, w_1055⟩, fun q hq => by cases hq⟩) (by decide) (by decide) w_959 dL_setDue_5 (c_X11_setDue (gk hX) (gl hX) hs x1 x2 M _ _ ee) kX11_setDue vX11_setDue w_1154 (st0 hs) rfl rfl rfl rfl (Nat.le_of_ble_eq_true rfl) (Nat.le_of_ble_eq_true rfl) (Nat.le_of_ble_eq_true rfl) (fun q => ?_)
        refine x_astoreq (ls' := [some (vr (xG X) 0), some (vi x1), some (vi x2), some (vr (xG X) a3), some (.ref q)]) hX dL_setDue_17 rfl rfl ?_
        refine x_iconst hX dL_setDue_19 ?_
        cases h
        exact x_iretX hX dL_setDue_20 (Nat.le_of_ble_eq_true rfl) (Nat.le_of_ble_eq_true rfl)
      · replace h := (if_neg q2).symm.trans h
        by_cases q1 : e1 = 1
        · replace h := (if_pos q1).symm.trans h
          subst q1
          refine x_xVc (pre := [(0, 10, 13, 21), (0, 10, 17, 13)]) (suf := []) (z := (0, 10, 21, 15)) (x := 1) (t := 10) (As := [vi x1, vi x2]) (rest := [vi 0, vr (xG X) a3]) hX hN rfl (List.forall_mem_cons.mpr ⟨⟨by decide, "java/lang/IndexOutOfBoundsException", by decide +kernel, by decide +kernel, w_1055⟩, List.forall_mem_cons.mpr ⟨⟨by decide, "java/lang/IllegalArgumentException", by decide +kernel, by decide +kernel, w_959⟩, fun q hq => by cases hq⟩⟩) (by decide) (by decide) w_960 dL_setDue_5 (c_X11_setDue (gk hX) (gl hX) hs x1 x2 M _ _ ee) kX11_setDue vX11_setDue w_1154 (st0 hs) rfl rfl rfl rfl (Nat.le_of_ble_eq_true rfl) (Nat.le_of_ble_eq_true rfl) (Nat.le_of_ble_eq_true rfl) (fun q => ?_)
          refine x_astoreq (ls' := [some (vr (xG X) 0), some (vi x1), some (vi x2), some (vr (xG X) a3), some (.ref q)]) hX dL_setDue_21 rfl rfl ?_
          refine x_iconst hX dL_setDue_23 ?_
          cases h
          exact x_iretX hX dL_setDue_24 (Nat.le_of_ble_eq_true rfl) (Nat.le_of_ble_eq_true rfl)
        · replace h := (if_neg q1).symm.trans h
          cases h
  · refine x_xVr (t := 10) (As := [vi x1, vi x2]) (rest := [vi 0, vr (xG X) a3]) hX dL_setDue_5 (c_X11_setDue (gk hX) (gl hX) hs x1 x2 M _ _ er) kX11_setDue vX11_setDue w_1154 (st0 hs) rfl rfl rfl rfl (Nat.le_of_ble_eq_true rfl) (kh hN (Nat.le_of_ble_eq_true rfl) (Nat.le_of_ble_eq_true rfl)) ?_
    refine x_i2l hX dL_setDue_8 ?_
    refine x_last hX dL_setDue_9 h3 inc_0_1 ixc_0 ?_
    refine x_goto (tgt := 25) hX dL_setDue_10 (by decide) ?_
    refine x_iconst hX dL_setDue_25 ?_
    cases h
    exact x_iretX hX dL_setDue_26 (Nat.le_of_ble_eq_true rfl) (Nat.le_of_ble_eq_true rfl)
def hhL_orderWeight : List (Nat × Nat × Nat × Nat) := [(0, 9, 12, 21)]
theorem kL_orderWeight : MKh mL_orderWeight hhL_orderWeight 3 := ⟨ws_of 1165 (by decide +kernel) (by decide +kernel), w_149, by decide +kernel, Nat.le_of_ble_eq_true rfl, by decide +kernel, w_1164⟩
set_option maxRecDepth 100000 in
set_option maxHeartbeats 4000000 in
theorem c_L_orderWeight {l : Launch} {G : Gx} (hG : GOK G) (hl : l.stackTraces = false) (hs : SOK G) {a2 : Nat} (h2 : at_ G a2 4 1) (x1 : Int) (M : Mem) (r : Int) (Mr : Mem) (h : f_L_orderWeight a2 x1 M = some (r, Mr)) : Cw l G mL_orderWeight hhL_orderWeight 4 1 6 [vr G 0, vi x1, vr G a2] M (some (vi r)) Mr := by
  refine Cw_of (ls := [some (vr G 0), some (vi x1), some (vr G a2), none]) hG hl kL_orderWeight rfl (Nat.le_of_ble_eq_true rfl) rfl rfl rfl rfl rfl (fun X eG el hX hN => ?_)
  subst eG; subst el
  unfold f_L_orderWeight at h
  refine x_aloadn hX dL_orderWeight_0 rfl ?_
  refine x_iconst hX dL_orderWeight_1 ?_
  refine x_aloadn hX dL_orderWeight_2 rfl ?_
  refine x_iloadn hX dL_orderWeight_3 rfl ?_
  rcases cx1_of h with ⟨e1, ee, h⟩ | ⟨r1, er, h⟩
  · by_cases q3 : e1 = 3
    · replace h := (if_pos q3).symm.trans h
      subst q3
      refine x_xVc (pre := []) (suf := []) (z := (0, 9, 12, 21)) (x := 3) (t := 10) (As := [vi x1]) (rest := [vi 0, vr (xG X) a2]) hX hN rfl (fun q hq => by cases hq) (by decide) (by decide) w_1055 dL_orderWeight_4 (c_X11_orderWeight (gk hX) (gl hX) hs x1 M _ ee) kX11_orderWeight vX11_orderWeight w_1166 (st0 hs) rfl rfl rfl rfl (Nat.le_of_ble_eq_true rfl) (Nat.le_of_ble_eq_true rfl) (Nat.le_of_ble_eq_true rfl) (fun q => ?_)
      refine x_astoreqn (ls' := [some (vr (xG X) 0), some (vi x1), some (vr (xG X) a2), some (.ref q)]) hX dL_orderWeight_12 rfl rfl ?_
      refine x_iconst hX dL_orderWeight_13 ?_
      cases h
      exact x_iretX hX dL_orderWeight_14 (Nat.le_of_ble_eq_true rfl) (Nat.le_of_ble_eq_true rfl)
    · replace h := (if_neg q3).symm.trans h
      cases h
  · refine x_xVr (t := 10) (As := [vi x1]) (rest := [vi 0, vr (xG X) a2]) hX dL_orderWeight_4 (c_X11_orderWeight (gk hX) (gl hX) hs x1 M _ er) kX11_orderWeight vX11_orderWeight w_1166 (st0 hs) rfl rfl rfl rfl (Nat.le_of_ble_eq_true rfl) (kh hN (Nat.le_of_ble_eq_true rfl) (Nat.le_of_ble_eq_true rfl)) ?_
    refine x_i2l hX dL_orderWeight_7 ?_
    refine x_last hX dL_orderWeight_8 h2 inc_0_1 ixc_0 ?_
    refine x_goto (tgt := 15) hX dL_orderWeight_9 (by decide) ?_
    refine x_iconst hX dL_orderWeight_15 ?_
    cases h
    exact x_iretX hX dL_orderWeight_16 (Nat.le_of_ble_eq_true rfl) (Nat.le_of_ble_eq_true rfl)
def hhL_orderAisles : List (Nat × Nat × Nat × Nat) := [(0, 9, 12, 21)]
theorem kL_orderAisles : MKh mL_orderAisles hhL_orderAisles 3 := ⟨ws_of 1176 (by decide +kernel) (by decide +kernel), w_149, by decide +kernel, Nat.le_of_ble_eq_true rfl, by decide +kernel, w_1175⟩
set_option maxRecDepth 100000 in
set_option maxHeartbeats 4000000 in
theorem c_L_orderAisles {l : Launch} {G : Gx} (hG : GOK G) (hl : l.stackTraces = false) (hs : SOK G) {a2 : Nat} (h2 : at_ G a2 4 1) (x1 : Int) (M : Mem) (r : Int) (Mr : Mem) (h : f_L_orderAisles a2 x1 M = some (r, Mr)) : Cw l G mL_orderAisles hhL_orderAisles 4 1 6 [vr G 0, vi x1, vr G a2] M (some (vi r)) Mr := by
  refine Cw_of (ls := [some (vr G 0), some (vi x1), some (vr G a2), none]) hG hl kL_orderAisles rfl (Nat.le_of_ble_eq_true rfl) rfl rfl rfl rfl rfl (fun X eG el hX hN => ?_)
  subst eG; subst el
  unfold f_L_orderAisles at h
  refine x_aloadn hX dL_orderAisles_0 rfl ?_
  refine x_iconst hX dL_orderAisles_1 ?_
  refine x_aloadn hX dL_orderAisles_2 rfl ?_
  refine x_iloadn hX dL_orderAisles_3 rfl ?_
  rcases cx1_of h with ⟨e1, ee, h⟩ | ⟨r1, er, h⟩
  · by_cases q3 : e1 = 3
    · replace h := (if_pos q3).symm.trans h
      subst q3
      refine x_xVc (pre := []) (suf := []) (z := (0, 9, 12, 21)) (x := 3) (t := 10) (As := [vi x1]) (rest := [vi 0, vr (xG X) a2]) hX hN rfl (fun q hq => by cases hq) (by decide) (by decide) w_1055 dL_orderAisles_4 (c_X11_orderAisles (gk hX) (gl hX) hs x1 M _ ee) kX11_orderAisles vX11_orderAisles w_1177 (st0 hs) rfl rfl rfl rfl (Nat.le_of_ble_eq_true rfl) (Nat.le_of_ble_eq_true rfl) (Nat.le_of_ble_eq_true rfl) (fun q => ?_)
      refine x_astoreqn (ls' := [some (vr (xG X) 0), some (vi x1), some (vr (xG X) a2), some (.ref q)]) hX dL_orderAisles_12 rfl rfl ?_
      refine x_iconst hX dL_orderAisles_13 ?_
      cases h
      exact x_iretX hX dL_orderAisles_14 (Nat.le_of_ble_eq_true rfl) (Nat.le_of_ble_eq_true rfl)
    · replace h := (if_neg q3).symm.trans h
      cases h
  · refine x_xVr (t := 10) (As := [vi x1]) (rest := [vi 0, vr (xG X) a2]) hX dL_orderAisles_4 (c_X11_orderAisles (gk hX) (gl hX) hs x1 M _ er) kX11_orderAisles vX11_orderAisles w_1177 (st0 hs) rfl rfl rfl rfl (Nat.le_of_ble_eq_true rfl) (kh hN (Nat.le_of_ble_eq_true rfl) (Nat.le_of_ble_eq_true rfl)) ?_
    refine x_i2l hX dL_orderAisles_7 ?_
    refine x_last hX dL_orderAisles_8 h2 inc_0_1 ixc_0 ?_
    refine x_goto (tgt := 15) hX dL_orderAisles_9 (by decide) ?_
    refine x_iconst hX dL_orderAisles_15 ?_
    cases h
    exact x_iretX hX dL_orderAisles_16 (Nat.le_of_ble_eq_true rfl) (Nat.le_of_ble_eq_true rfl)
def hhL_cancel : List (Nat × Nat × Nat × Nat) := [(0, 9, 12, 21), (0, 9, 15, 15)]
theorem kL_cancel : MKh mL_cancel hhL_cancel 3 := ⟨ws_of 1187 (by decide +kernel) (by decide +kernel), w_149, by decide +kernel, Nat.le_of_ble_eq_true rfl, by decide +kernel, w_1186⟩
set_option maxRecDepth 100000 in
set_option maxHeartbeats 4000000 in
theorem c_L_cancel {l : Launch} {G : Gx} (hG : GOK G) (hl : l.stackTraces = false) (hs : SOK G) {a2 : Nat} (h2 : at_ G a2 4 1) (x1 : Int) (M : Mem) (r : Int) (Mr : Mem) (h : f_L_cancel a2 x1 M = some (r, Mr)) : Cw l G mL_cancel hhL_cancel 5 2 12 [vr G 0, vi x1, vr G a2] M (some (vi r)) Mr := by
  refine Cw_of (ls := [some (vr G 0), some (vi x1), some (vr G a2), none]) hG hl kL_cancel rfl (Nat.le_of_ble_eq_true rfl) rfl rfl rfl rfl rfl (fun X eG el hX hN => ?_)
  subst eG; subst el
  unfold f_L_cancel at h
  refine x_aloadn hX dL_cancel_0 rfl ?_
  refine x_iconst hX dL_cancel_1 ?_
  refine x_aloadn hX dL_cancel_2 rfl ?_
  refine x_iloadn hX dL_cancel_3 rfl ?_
  rcases cx2_of h with ⟨e1, M1, ee, h⟩ | ⟨r1, M1, er, h⟩
  · by_cases q3 : e1 = 3
    · replace h := (if_pos q3).symm.trans h
      subst q3
      refine x_xVc (pre := []) (suf := [(0, 9, 15, 15)]) (z := (0, 9, 12, 21)) (x := 3) (t := 10) (As := [vi x1]) (rest := [vi 0, vr (xG X) a2]) hX hN rfl (fun q hq => by cases hq) (by decide) (by decide) w_1055 dL_cancel_4 (c_X11_cancel (gk hX) (gl hX) hs x1 M _ _ ee) kX11_cancel vX11_cancel w_1188 (st0 hs) rfl rfl rfl rfl (Nat.le_of_ble_eq_true rfl) (Nat.le_of_ble_eq_true rfl) (Nat.le_of_ble_eq_true rfl) (fun q => ?_)
      refine x_astoreqn (ls' := [some (vr (xG X) 0), some (vi x1), some (vr (xG X) a2), some (.ref q)]) hX dL_cancel_12 rfl rfl ?_
      refine x_iconst hX dL_cancel_13 ?_
      cases h
      exact x_iretX hX dL_cancel_14 (Nat.le_of_ble_eq_true rfl) (Nat.le_of_ble_eq_true rfl)
    · replace h := (if_neg q3).symm.trans h
      by_cases q1 : e1 = 1
      · replace h := (if_pos q1).symm.trans h
        subst q1
        refine x_xVc (pre := [(0, 9, 12, 21)]) (suf := []) (z := (0, 9, 15, 15)) (x := 1) (t := 10) (As := [vi x1]) (rest := [vi 0, vr (xG X) a2]) hX hN rfl (List.forall_mem_cons.mpr ⟨⟨by decide, "java/lang/IndexOutOfBoundsException", by decide +kernel, by decide +kernel, w_1055⟩, fun q hq => by cases hq⟩) (by decide) (by decide) w_960 dL_cancel_4 (c_X11_cancel (gk hX) (gl hX) hs x1 M _ _ ee) kX11_cancel vX11_cancel w_1188 (st0 hs) rfl rfl rfl rfl (Nat.le_of_ble_eq_true rfl) (Nat.le_of_ble_eq_true rfl) (Nat.le_of_ble_eq_true rfl) (fun q => ?_)
        refine x_astoreqn (ls' := [some (vr (xG X) 0), some (vi x1), some (vr (xG X) a2), some (.ref q)]) hX dL_cancel_15 rfl rfl ?_
        refine x_iconst hX dL_cancel_16 ?_
        cases h
        exact x_iretX hX dL_cancel_17 (Nat.le_of_ble_eq_true rfl) (Nat.le_of_ble_eq_true rfl)
      · replace h := (if_neg q1).symm.trans h
        cases h
  · refine x_xVr (t := 10) (As := [vi x1]) (rest := [vi 0, vr (xG X) a2]) hX dL_cancel_4 (c_X11_cancel (gk hX) (gl hX) hs x1 M _ _ er) kX11_cancel vX11_cancel w_1188 (st0 hs) rfl rfl rfl rfl (Nat.le_of_ble_eq_true rfl) (kh hN (Nat.le_of_ble_eq_true rfl) (Nat.le_of_ble_eq_true rfl)) ?_
    refine x_i2l hX dL_cancel_7 ?_
    refine x_last hX dL_cancel_8 h2 inc_0_1 ixc_0 ?_
    refine x_goto (tgt := 18) hX dL_cancel_9 (by decide) ?_
    refine x_iconst hX dL_cancel_18 ?_
    cases h
    exact x_iretX hX dL_cancel_19 (Nat.le_of_ble_eq_true rfl) (Nat.le_of_ble_eq_true rfl)
def hhL_makeBatches : List (Nat × Nat × Nat × Nat) := [(0, 12, 15, 13)]
theorem kL_makeBatches : MKh mL_makeBatches hhL_makeBatches 5 := ⟨ws_of 1210 (by decide +kernel) (by decide +kernel), w_149, by decide +kernel, Nat.le_of_ble_eq_true rfl, by decide +kernel, w_1209⟩
set_option maxRecDepth 100000 in
set_option maxHeartbeats 4000000 in
theorem c_L_makeBatches {l : Launch} {G : Gx} (hG : GOK G) (hl : l.stackTraces = false) (hs : SOK G) {a4 : Nat} (h4 : at_ G a4 4 1) (x1 : Int) (x2 : Int) (x3 : Int) (M : Mem) (r : Int) (Mr : Mem) (h : f_L_makeBatches a4 x1 x2 x3 M = some (r, Mr)) : Cw l G mL_makeBatches hhL_makeBatches 6 3 18 [vr G 0, vi x1, vi x2, vi x3, vr G a4] M (some (vi r)) Mr := by
  refine Cw_of (ls := [some (vr G 0), some (vi x1), some (vi x2), some (vi x3), some (vr G a4), none]) hG hl kL_makeBatches rfl (Nat.le_of_ble_eq_true rfl) rfl rfl rfl rfl rfl (fun X eG el hX hN => ?_)
  subst eG; subst el
  unfold f_L_makeBatches at h
  refine x_aload hX dL_makeBatches_0 rfl ?_
  refine x_iconst hX dL_makeBatches_2 ?_
  refine x_aloadn hX dL_makeBatches_3 rfl ?_
  refine x_iloadn hX dL_makeBatches_4 rfl ?_
  refine x_iloadn hX dL_makeBatches_5 rfl ?_
  refine x_iloadn hX dL_makeBatches_6 rfl ?_
  rcases cx2_of h with ⟨e1, M1, ee, h⟩ | ⟨r1, M1, er, h⟩
  · by_cases q2 : e1 = 2
    · replace h := (if_pos q2).symm.trans h
      subst q2
      refine x_xVc (pre := []) (suf := []) (z := (0, 12, 15, 13)) (x := 2) (t := 10) (As := [vi x1, vi x2, vi x3]) (rest := [vi 0, vr (xG X) a4]) hX hN rfl (fun q hq => by cases hq) (by decide) (by decide) w_959 dL_makeBatches_7 (c_X11_makeBatches (gk hX) (gl hX) hs x1 x2 x3 M _ _ ee) kX11_makeBatches vX11_makeBatches w_1211 (st0 hs) rfl rfl rfl rfl (Nat.le_of_ble_eq_true rfl) (Nat.le_of_ble_eq_true rfl) (Nat.le_of_ble_eq_true rfl) (fun q => ?_)
      refine x_astoreq (ls' := [some (vr (xG X) 0), some (vi x1), some (vi x2), some (vi x3), some (vr (xG X) a4), some (.ref q)]) hX dL_makeBatches_15 rfl rfl ?_
      refine x_iconst hX dL_makeBatches_17 ?_
      cases h
      exact x_iretX hX dL_makeBatches_18 (Nat.le_of_ble_eq_true rfl) (Nat.le_of_ble_eq_true rfl)
    · replace h := (if_neg q2).symm.trans h
      cases h
  · refine x_xVr (t := 10) (As := [vi x1, vi x2, vi x3]) (rest := [vi 0, vr (xG X) a4]) hX dL_makeBatches_7 (c_X11_makeBatches (gk hX) (gl hX) hs x1 x2 x3 M _ _ er) kX11_makeBatches vX11_makeBatches w_1211 (st0 hs) rfl rfl rfl rfl (Nat.le_of_ble_eq_true rfl) (kh hN (Nat.le_of_ble_eq_true rfl) (Nat.le_of_ble_eq_true rfl)) ?_
    refine x_i2l hX dL_makeBatches_10 ?_
    refine x_last hX dL_makeBatches_11 h4 inc_0_1 ixc_0 ?_
    refine x_goto (tgt := 19) hX dL_makeBatches_12 (by decide) ?_
    refine x_iconst hX dL_makeBatches_19 ?_
    cases h
    exact x_iretX hX dL_makeBatches_20 (Nat.le_of_ble_eq_true rfl) (Nat.le_of_ble_eq_true rfl)
def hhL_addBatch : List (Nat × Nat × Nat × Nat) := [(0, 9, 12, 13), (0, 9, 15, 15)]
theorem kL_addBatch : MKh mL_addBatch hhL_addBatch 3 := ⟨ws_of 1266 (by decide +kernel) (by decide +kernel), w_149, by decide +kernel, Nat.le_of_ble_eq_true rfl, by decide +kernel, w_1265⟩
set_option maxRecDepth 100000 in
set_option maxHeartbeats 4000000 in
theorem c_L_addBatch {l : Launch} {G : Gx} (hG : GOK G) (hl : l.stackTraces = false) (hs : SOK G) {a2 : Nat} (h2 : at_ G a2 4 1) (x1 : Int) (M : Mem) (r : Int) (Mr : Mem) (h : f_L_addBatch a2 x1 M = some (r, Mr)) : Cw l G mL_addBatch hhL_addBatch 4 2 12 [vr G 0, vi x1, vr G a2] M (some (vi r)) Mr := by
  refine Cw_of (ls := [some (vr G 0), some (vi x1), some (vr G a2), none]) hG hl kL_addBatch rfl (Nat.le_of_ble_eq_true rfl) rfl rfl rfl rfl rfl (fun X eG el hX hN => ?_)
  subst eG; subst el
  unfold f_L_addBatch at h
  refine x_aloadn hX dL_addBatch_0 rfl ?_
  refine x_iconst hX dL_addBatch_1 ?_
  refine x_aloadn hX dL_addBatch_2 rfl ?_
  refine x_iloadn hX dL_addBatch_3 rfl ?_
  rcases cx2_of h with ⟨e1, M1, ee, h⟩ | ⟨r1, M1, er, h⟩
  · by_cases q2 : e1 = 2
    · replace h := (if_pos q2).symm.trans h
      subst q2
      refine x_xVc (pre := []) (suf := [(0, 9, 15, 15)]) (z := (0, 9, 12, 13)) (x := 2) (t := 10) (As := [vi x1]) (rest := [vi 0, vr (xG X) a2]) hX hN rfl (fun q hq => by cases hq) (by decide) (by decide) w_959 dL_addBatch_4 (c_X11_addBatch (gk hX) (gl hX) hs x1 M _ _ ee) kX11_addBatch vX11_addBatch w_1267 (st0 hs) rfl rfl rfl rfl (Nat.le_of_ble_eq_true rfl) (Nat.le_of_ble_eq_true rfl) (Nat.le_of_ble_eq_true rfl) (fun q => ?_)
      refine x_astoreqn (ls' := [some (vr (xG X) 0), some (vi x1), some (vr (xG X) a2), some (.ref q)]) hX dL_addBatch_12 rfl rfl ?_
      refine x_iconst hX dL_addBatch_13 ?_
      cases h
      exact x_iretX hX dL_addBatch_14 (Nat.le_of_ble_eq_true rfl) (Nat.le_of_ble_eq_true rfl)
    · replace h := (if_neg q2).symm.trans h
      by_cases q1 : e1 = 1
      · replace h := (if_pos q1).symm.trans h
        subst q1
        refine x_xVc (pre := [(0, 9, 12, 13)]) (suf := []) (z := (0, 9, 15, 15)) (x := 1) (t := 10) (As := [vi x1]) (rest := [vi 0, vr (xG X) a2]) hX hN rfl (List.forall_mem_cons.mpr ⟨⟨by decide, "java/lang/IllegalArgumentException", by decide +kernel, by decide +kernel, w_959⟩, fun q hq => by cases hq⟩) (by decide) (by decide) w_960 dL_addBatch_4 (c_X11_addBatch (gk hX) (gl hX) hs x1 M _ _ ee) kX11_addBatch vX11_addBatch w_1267 (st0 hs) rfl rfl rfl rfl (Nat.le_of_ble_eq_true rfl) (Nat.le_of_ble_eq_true rfl) (Nat.le_of_ble_eq_true rfl) (fun q => ?_)
        refine x_astoreqn (ls' := [some (vr (xG X) 0), some (vi x1), some (vr (xG X) a2), some (.ref q)]) hX dL_addBatch_15 rfl rfl ?_
        refine x_iconst hX dL_addBatch_16 ?_
        cases h
        exact x_iretX hX dL_addBatch_17 (Nat.le_of_ble_eq_true rfl) (Nat.le_of_ble_eq_true rfl)
      · replace h := (if_neg q1).symm.trans h
        cases h
  · refine x_xVr (t := 10) (As := [vi x1]) (rest := [vi 0, vr (xG X) a2]) hX dL_addBatch_4 (c_X11_addBatch (gk hX) (gl hX) hs x1 M _ _ er) kX11_addBatch vX11_addBatch w_1267 (st0 hs) rfl rfl rfl rfl (Nat.le_of_ble_eq_true rfl) (kh hN (Nat.le_of_ble_eq_true rfl) (Nat.le_of_ble_eq_true rfl)) ?_
    refine x_i2l hX dL_addBatch_7 ?_
    refine x_last hX dL_addBatch_8 h2 inc_0_1 ixc_0 ?_
    refine x_goto (tgt := 18) hX dL_addBatch_9 (by decide) ?_
    refine x_iconst hX dL_addBatch_18 ?_
    cases h
    exact x_iretX hX dL_addBatch_19 (Nat.le_of_ble_eq_true rfl) (Nat.le_of_ble_eq_true rfl)
def hhL_dissolve : List (Nat × Nat × Nat × Nat) := [(0, 9, 12, 21)]
theorem kL_dissolve : MKh mL_dissolve hhL_dissolve 3 := ⟨ws_of 1277 (by decide +kernel) (by decide +kernel), w_149, by decide +kernel, Nat.le_of_ble_eq_true rfl, by decide +kernel, w_1276⟩
set_option maxRecDepth 100000 in
set_option maxHeartbeats 4000000 in
theorem c_L_dissolve {l : Launch} {G : Gx} (hG : GOK G) (hl : l.stackTraces = false) (hs : SOK G) {a2 : Nat} (h2 : at_ G a2 4 1) (x1 : Int) (M : Mem) (r : Int) (Mr : Mem) (h : f_L_dissolve a2 x1 M = some (r, Mr)) : Cw l G mL_dissolve hhL_dissolve 4 1 6 [vr G 0, vi x1, vr G a2] M (some (vi r)) Mr := by
  refine Cw_of (ls := [some (vr G 0), some (vi x1), some (vr G a2), none]) hG hl kL_dissolve rfl (Nat.le_of_ble_eq_true rfl) rfl rfl rfl rfl rfl (fun X eG el hX hN => ?_)
  subst eG; subst el
  unfold f_L_dissolve at h
  refine x_aloadn hX dL_dissolve_0 rfl ?_
  refine x_iconst hX dL_dissolve_1 ?_
  refine x_aloadn hX dL_dissolve_2 rfl ?_
  refine x_iloadn hX dL_dissolve_3 rfl ?_
  rcases cx2_of h with ⟨e1, M1, ee, h⟩ | ⟨r1, M1, er, h⟩
  · by_cases q3 : e1 = 3
    · replace h := (if_pos q3).symm.trans h
      subst q3
      refine x_xVc (pre := []) (suf := []) (z := (0, 9, 12, 21)) (x := 3) (t := 10) (As := [vi x1]) (rest := [vi 0, vr (xG X) a2]) hX hN rfl (fun q hq => by cases hq) (by decide) (by decide) w_1055 dL_dissolve_4 (c_X11_dissolve (gk hX) (gl hX) hs x1 M _ _ ee) kX11_dissolve vX11_dissolve w_1278 (st0 hs) rfl rfl rfl rfl (Nat.le_of_ble_eq_true rfl) (Nat.le_of_ble_eq_true rfl) (Nat.le_of_ble_eq_true rfl) (fun q => ?_)
      refine x_astoreqn (ls' := [some (vr (xG X) 0), some (vi x1), some (vr (xG X) a2), some (.ref q)]) hX dL_dissolve_12 rfl rfl ?_
      refine x_iconst hX dL_dissolve_13 ?_
      cases h
      exact x_iretX hX dL_dissolve_14 (Nat.le_of_ble_eq_true rfl) (Nat.le_of_ble_eq_true rfl)
    · replace h := (if_neg q3).symm.trans h
      cases h
  · refine x_xVr (t := 10) (As := [vi x1]) (rest := [vi 0, vr (xG X) a2]) hX dL_dissolve_4 (c_X11_dissolve (gk hX) (gl hX) hs x1 M _ _ er) kX11_dissolve vX11_dissolve w_1278 (st0 hs) rfl rfl rfl rfl (Nat.le_of_ble_eq_true rfl) (kh hN (Nat.le_of_ble_eq_true rfl) (Nat.le_of_ble_eq_true rfl)) ?_
    refine x_i2l hX dL_dissolve_7 ?_
    refine x_last hX dL_dissolve_8 h2 inc_0_1 ixc_0 ?_
    refine x_goto (tgt := 15) hX dL_dissolve_9 (by decide) ?_
    refine x_iconst hX dL_dissolve_15 ?_
    cases h
    exact x_iretX hX dL_dissolve_16 (Nat.le_of_ble_eq_true rfl) (Nat.le_of_ble_eq_true rfl)
def hhL_batchOrders : List (Nat × Nat × Nat × Nat) := [(0, 9, 12, 21)]
theorem kL_batchOrders : MKh mL_batchOrders hhL_batchOrders 3 := ⟨ws_of 1290 (by decide +kernel) (by decide +kernel), w_149, by decide +kernel, Nat.le_of_ble_eq_true rfl, by decide +kernel, w_1289⟩
set_option maxRecDepth 100000 in
set_option maxHeartbeats 4000000 in
theorem c_L_batchOrders {l : Launch} {G : Gx} (hG : GOK G) (hl : l.stackTraces = false) (hs : SOK G) {a2 : Nat} (h2 : at_ G a2 4 1) (x1 : Int) (M : Mem) (r : Int) (Mr : Mem) (h : f_L_batchOrders a2 x1 M = some (r, Mr)) : Cw l G mL_batchOrders hhL_batchOrders 4 1 6 [vr G 0, vi x1, vr G a2] M (some (vi r)) Mr := by
  refine Cw_of (ls := [some (vr G 0), some (vi x1), some (vr G a2), none]) hG hl kL_batchOrders rfl (Nat.le_of_ble_eq_true rfl) rfl rfl rfl rfl rfl (fun X eG el hX hN => ?_)
  subst eG; subst el
  unfold f_L_batchOrders at h
  refine x_aloadn hX dL_batchOrders_0 rfl ?_
  refine x_iconst hX dL_batchOrders_1 ?_
  refine x_aloadn hX dL_batchOrders_2 rfl ?_
  refine x_iloadn hX dL_batchOrders_3 rfl ?_
  rcases cx1_of h with ⟨e1, ee, h⟩ | ⟨r1, er, h⟩
  · by_cases q3 : e1 = 3
    · replace h := (if_pos q3).symm.trans h
      subst q3
      refine x_xVc (pre := []) (suf := []) (z := (0, 9, 12, 21)) (x := 3) (t := 10) (As := [vi x1]) (rest := [vi 0, vr (xG X) a2]) hX hN rfl (fun q hq => by cases hq) (by decide) (by decide) w_1055 dL_batchOrders_4 (c_X11_batchOrders (gk hX) (gl hX) hs x1 M _ ee) kX11_batchOrders vX11_batchOrders w_1291 (st0 hs) rfl rfl rfl rfl (Nat.le_of_ble_eq_true rfl) (Nat.le_of_ble_eq_true rfl) (Nat.le_of_ble_eq_true rfl) (fun q => ?_)
      refine x_astoreqn (ls' := [some (vr (xG X) 0), some (vi x1), some (vr (xG X) a2), some (.ref q)]) hX dL_batchOrders_12 rfl rfl ?_
      refine x_iconst hX dL_batchOrders_13 ?_
      cases h
      exact x_iretX hX dL_batchOrders_14 (Nat.le_of_ble_eq_true rfl) (Nat.le_of_ble_eq_true rfl)
    · replace h := (if_neg q3).symm.trans h
      cases h
  · refine x_xVr (t := 10) (As := [vi x1]) (rest := [vi 0, vr (xG X) a2]) hX dL_batchOrders_4 (c_X11_batchOrders (gk hX) (gl hX) hs x1 M _ er) kX11_batchOrders vX11_batchOrders w_1291 (st0 hs) rfl rfl rfl rfl (Nat.le_of_ble_eq_true rfl) (kh hN (Nat.le_of_ble_eq_true rfl) (Nat.le_of_ble_eq_true rfl)) ?_
    refine x_i2l hX dL_batchOrders_7 ?_
    refine x_last hX dL_batchOrders_8 h2 inc_0_1 ixc_0 ?_
    refine x_goto (tgt := 15) hX dL_batchOrders_9 (by decide) ?_
    refine x_iconst hX dL_batchOrders_15 ?_
    cases h
    exact x_iretX hX dL_batchOrders_16 (Nat.le_of_ble_eq_true rfl) (Nat.le_of_ble_eq_true rfl)
def hhL_batchWeight : List (Nat × Nat × Nat × Nat) := [(0, 9, 12, 21)]
theorem kL_batchWeight : MKh mL_batchWeight hhL_batchWeight 3 := ⟨ws_of 1297 (by decide +kernel) (by decide +kernel), w_149, by decide +kernel, Nat.le_of_ble_eq_true rfl, by decide +kernel, w_1296⟩
set_option maxRecDepth 100000 in
set_option maxHeartbeats 4000000 in
theorem c_L_batchWeight {l : Launch} {G : Gx} (hG : GOK G) (hl : l.stackTraces = false) (hs : SOK G) {a2 : Nat} (h2 : at_ G a2 4 1) (x1 : Int) (M : Mem) (r : Int) (Mr : Mem) (h : f_L_batchWeight a2 x1 M = some (r, Mr)) : Cw l G mL_batchWeight hhL_batchWeight 4 1 6 [vr G 0, vi x1, vr G a2] M (some (vi r)) Mr := by
  refine Cw_of (ls := [some (vr G 0), some (vi x1), some (vr G a2), none]) hG hl kL_batchWeight rfl (Nat.le_of_ble_eq_true rfl) rfl rfl rfl rfl rfl (fun X eG el hX hN => ?_)
  subst eG; subst el
  unfold f_L_batchWeight at h
  refine x_aloadn hX dL_batchWeight_0 rfl ?_
  refine x_iconst hX dL_batchWeight_1 ?_
  refine x_aloadn hX dL_batchWeight_2 rfl ?_
  refine x_iloadn hX dL_batchWeight_3 rfl ?_
  rcases cx1_of h with ⟨e1, ee, h⟩ | ⟨r1, er, h⟩
  · by_cases q3 : e1 = 3
    · replace h := (if_pos q3).symm.trans h
      subst q3
      refine x_xVc (pre := []) (suf := []) (z := (0, 9, 12, 21)) (x := 3) (t := 10) (As := [vi x1]) (rest := [vi 0, vr (xG X) a2]) hX hN rfl (fun q hq => by cases hq) (by decide) (by decide) w_1055 dL_batchWeight_4 (c_X11_batchWeight (gk hX) (gl hX) hs x1 M _ ee) kX11_batchWeight vX11_batchWeight w_1298 (st0 hs) rfl rfl rfl rfl (Nat.le_of_ble_eq_true rfl) (Nat.le_of_ble_eq_true rfl) (Nat.le_of_ble_eq_true rfl) (fun q => ?_)
      refine x_astoreqn (ls' := [some (vr (xG X) 0), some (vi x1), some (vr (xG X) a2), some (.ref q)]) hX dL_batchWeight_12 rfl rfl ?_
      refine x_iconst hX dL_batchWeight_13 ?_
      cases h
      exact x_iretX hX dL_batchWeight_14 (Nat.le_of_ble_eq_true rfl) (Nat.le_of_ble_eq_true rfl)
    · replace h := (if_neg q3).symm.trans h
      cases h
  · refine x_xVr (t := 10) (As := [vi x1]) (rest := [vi 0, vr (xG X) a2]) hX dL_batchWeight_4 (c_X11_batchWeight (gk hX) (gl hX) hs x1 M _ er) kX11_batchWeight vX11_batchWeight w_1298 (st0 hs) rfl rfl rfl rfl (Nat.le_of_ble_eq_true rfl) (kh hN (Nat.le_of_ble_eq_true rfl) (Nat.le_of_ble_eq_true rfl)) ?_
    refine x_i2l hX dL_batchWeight_7 ?_
    refine x_last hX dL_batchWeight_8 h2 inc_0_1 ixc_0 ?_
    refine x_goto (tgt := 15) hX dL_batchWeight_9 (by decide) ?_
    refine x_iconst hX dL_batchWeight_15 ?_
    cases h
    exact x_iretX hX dL_batchWeight_16 (Nat.le_of_ble_eq_true rfl) (Nat.le_of_ble_eq_true rfl)
def hhL_improve : List (Nat × Nat × Nat × Nat) := [(0, 10, 13, 13)]
theorem kL_improve : MKh mL_improve hhL_improve 4 := ⟨ws_of 1305 (by decide +kernel) (by decide +kernel), w_149, by decide +kernel, Nat.le_of_ble_eq_true rfl, by decide +kernel, w_1304⟩
set_option maxRecDepth 100000 in
set_option maxHeartbeats 4000000 in
theorem c_L_improve {l : Launch} {G : Gx} (hG : GOK G) (hl : l.stackTraces = false) (hs : SOK G) {a3 : Nat} (h3 : at_ G a3 4 1) (x1 : Int) (x2 : Int) (M : Mem) (r : Int) (Mr : Mem) (h : f_L_improve a3 x1 x2 M = some (r, Mr)) : Cw l G mL_improve hhL_improve 8 2 12 [vr G 0, vi x1, vi x2, vr G a3] M (some (vi r)) Mr := by
  refine Cw_of (ls := [some (vr G 0), some (vi x1), some (vi x2), some (vr G a3), none]) hG hl kL_improve rfl (Nat.le_of_ble_eq_true rfl) rfl rfl rfl rfl rfl (fun X eG el hX hN => ?_)
  subst eG; subst el
  unfold f_L_improve at h
  refine x_aloadn hX dL_improve_0 rfl ?_
  refine x_iconst hX dL_improve_1 ?_
  refine x_aloadn hX dL_improve_2 rfl ?_
  refine x_iloadn hX dL_improve_3 rfl ?_
  refine x_iloadn hX dL_improve_4 rfl ?_
  rcases cx2_of h with ⟨e1, M1, ee, h⟩ | ⟨r1, M1, er, h⟩
  · by_cases q2 : e1 = 2
    · replace h := (if_pos q2).symm.trans h
      subst q2
      refine x_xVc (pre := []) (suf := []) (z := (0, 10, 13, 13)) (x := 2) (t := 10) (As := [vi x1, vi x2]) (rest := [vi 0, vr (xG X) a3]) hX hN rfl (fun q hq => by cases hq) (by decide) (by decide) w_959 dL_improve_5 (c_X11_improve (gk hX) (gl hX) hs x1 x2 M _ _ ee) kX11_improve vX11_improve w_1306 (st0 hs) rfl rfl rfl rfl (Nat.le_of_ble_eq_true rfl) (Nat.le_of_ble_eq_true rfl) (Nat.le_of_ble_eq_true rfl) (fun q => ?_)
      refine x_astoreq (ls' := [some (vr (xG X) 0), some (vi x1), some (vi x2), some (vr (xG X) a3), some (.ref q)]) hX dL_improve_13 rfl rfl ?_
      refine x_iconst hX dL_improve_15 ?_
      cases h
      exact x_iretX hX dL_improve_16 (Nat.le_of_ble_eq_true rfl) (Nat.le_of_ble_eq_true rfl)
    · replace h := (if_neg q2).symm.trans h
      cases h
  · refine x_xVr (t := 10) (As := [vi x1, vi x2]) (rest := [vi 0, vr (xG X) a3]) hX dL_improve_5 (c_X11_improve (gk hX) (gl hX) hs x1 x2 M _ _ er) kX11_improve vX11_improve w_1306 (st0 hs) rfl rfl rfl rfl (Nat.le_of_ble_eq_true rfl) (kh hN (Nat.le_of_ble_eq_true rfl) (Nat.le_of_ble_eq_true rfl)) ?_
    refine x_i2l hX dL_improve_8 ?_
    refine x_last hX dL_improve_9 h3 inc_0_1 ixc_0 ?_
    refine x_goto (tgt := 17) hX dL_improve_10 (by decide) ?_
    refine x_iconst hX dL_improve_17 ?_
    cases h
    exact x_iretX hX dL_improve_18 (Nat.le_of_ble_eq_true rfl) (Nat.le_of_ble_eq_true rfl)
def hhL_sortBatches : List (Nat × Nat × Nat × Nat) := [(0, 9, 12, 13), (0, 9, 15, 15)]
theorem kL_sortBatches : MKh mL_sortBatches hhL_sortBatches 3 := ⟨ws_of 1336 (by decide +kernel) (by decide +kernel), w_149, by decide +kernel, Nat.le_of_ble_eq_true rfl, by decide +kernel, w_1335⟩
set_option maxRecDepth 100000 in
set_option maxHeartbeats 4000000 in
theorem c_L_sortBatches {l : Launch} {G : Gx} (hG : GOK G) (hl : l.stackTraces = false) (hs : SOK G) {a2 : Nat} (h2 : at_ G a2 4 1) (x1 : Int) (M : Mem) (r : Int) (Mr : Mem) (h : f_L_sortBatches a2 x1 M = some (r, Mr)) : Cw l G mL_sortBatches hhL_sortBatches 21 2 12 [vr G 0, vi x1, vr G a2] M (some (vi r)) Mr := by
  refine Cw_of (ls := [some (vr G 0), some (vi x1), some (vr G a2), none]) hG hl kL_sortBatches rfl (Nat.le_of_ble_eq_true rfl) rfl rfl rfl rfl rfl (fun X eG el hX hN => ?_)
  subst eG; subst el
  unfold f_L_sortBatches at h
  refine x_aloadn hX dL_sortBatches_0 rfl ?_
  refine x_iconst hX dL_sortBatches_1 ?_
  refine x_aloadn hX dL_sortBatches_2 rfl ?_
  refine x_iloadn hX dL_sortBatches_3 rfl ?_
  rcases cx2_of h with ⟨e1, M1, ee, h⟩ | ⟨r1, M1, er, h⟩
  · by_cases q2 : e1 = 2
    · replace h := (if_pos q2).symm.trans h
      subst q2
      refine x_xVc (pre := []) (suf := [(0, 9, 15, 15)]) (z := (0, 9, 12, 13)) (x := 2) (t := 10) (As := [vi x1]) (rest := [vi 0, vr (xG X) a2]) hX hN rfl (fun q hq => by cases hq) (by decide) (by decide) w_959 dL_sortBatches_4 (c_X11_sortBatches (gk hX) (gl hX) hs x1 M _ _ ee) kX11_sortBatches vX11_sortBatches w_1337 (st0 hs) rfl rfl rfl rfl (Nat.le_of_ble_eq_true rfl) (Nat.le_of_ble_eq_true rfl) (Nat.le_of_ble_eq_true rfl) (fun q => ?_)
      refine x_astoreqn (ls' := [some (vr (xG X) 0), some (vi x1), some (vr (xG X) a2), some (.ref q)]) hX dL_sortBatches_12 rfl rfl ?_
      refine x_iconst hX dL_sortBatches_13 ?_
      cases h
      exact x_iretX hX dL_sortBatches_14 (Nat.le_of_ble_eq_true rfl) (Nat.le_of_ble_eq_true rfl)
    · replace h := (if_neg q2).symm.trans h
      by_cases q1 : e1 = 1
      · replace h := (if_pos q1).symm.trans h
        subst q1
        refine x_xVc (pre := [(0, 9, 12, 13)]) (suf := []) (z := (0, 9, 15, 15)) (x := 1) (t := 10) (As := [vi x1]) (rest := [vi 0, vr (xG X) a2]) hX hN rfl (List.forall_mem_cons.mpr ⟨⟨by decide, "java/lang/IllegalArgumentException", by decide +kernel, by decide +kernel, w_959⟩, fun q hq => by cases hq⟩) (by decide) (by decide) w_960 dL_sortBatches_4 (c_X11_sortBatches (gk hX) (gl hX) hs x1 M _ _ ee) kX11_sortBatches vX11_sortBatches w_1337 (st0 hs) rfl rfl rfl rfl (Nat.le_of_ble_eq_true rfl) (Nat.le_of_ble_eq_true rfl) (Nat.le_of_ble_eq_true rfl) (fun q => ?_)
        refine x_astoreqn (ls' := [some (vr (xG X) 0), some (vi x1), some (vr (xG X) a2), some (.ref q)]) hX dL_sortBatches_15 rfl rfl ?_
        refine x_iconst hX dL_sortBatches_16 ?_
        cases h
        exact x_iretX hX dL_sortBatches_17 (Nat.le_of_ble_eq_true rfl) (Nat.le_of_ble_eq_true rfl)
      · replace h := (if_neg q1).symm.trans h
        cases h
  · refine x_xVr (t := 10) (As := [vi x1]) (rest := [vi 0, vr (xG X) a2]) hX dL_sortBatches_4 (c_X11_sortBatches (gk hX) (gl hX) hs x1 M _ _ er) kX11_sortBatches vX11_sortBatches w_1337 (st0 hs) rfl rfl rfl rfl (Nat.le_of_ble_eq_true rfl) (kh hN (Nat.le_of_ble_eq_true rfl) (Nat.le_of_ble_eq_true rfl)) ?_
    refine x_i2l hX dL_sortBatches_7 ?_
    refine x_last hX dL_sortBatches_8 h2 inc_0_1 ixc_0 ?_
    refine x_goto (tgt := 18) hX dL_sortBatches_9 (by decide) ?_
    refine x_iconst hX dL_sortBatches_18 ?_
    cases h
    exact x_iretX hX dL_sortBatches_19 (Nat.le_of_ble_eq_true rfl) (Nat.le_of_ble_eq_true rfl)
def hhL_setPolicy : List (Nat × Nat × Nat × Nat) := [(0, 9, 12, 13)]
theorem kL_setPolicy : MKh mL_setPolicy hhL_setPolicy 3 := ⟨ws_of 1379 (by decide +kernel) (by decide +kernel), w_149, by decide +kernel, Nat.le_of_ble_eq_true rfl, by decide +kernel, w_1378⟩
set_option maxRecDepth 100000 in
set_option maxHeartbeats 4000000 in
theorem c_L_setPolicy {l : Launch} {G : Gx} (hG : GOK G) (hl : l.stackTraces = false) (hs : SOK G) {a2 : Nat} (h2 : at_ G a2 4 1) (x1 : Int) (M : Mem) (r : Int) (Mr : Mem) (h : f_L_setPolicy a2 x1 M = some (r, Mr)) : Cw l G mL_setPolicy hhL_setPolicy 3 1 6 [vr G 0, vi x1, vr G a2] M (some (vi r)) Mr := by
  refine Cw_of (ls := [some (vr G 0), some (vi x1), some (vr G a2), none]) hG hl kL_setPolicy rfl (Nat.le_of_ble_eq_true rfl) rfl rfl rfl rfl rfl (fun X eG el hX hN => ?_)
  subst eG; subst el
  unfold f_L_setPolicy at h
  refine x_aloadn hX dL_setPolicy_0 rfl ?_
  refine x_iconst hX dL_setPolicy_1 ?_
  refine x_aloadn hX dL_setPolicy_2 rfl ?_
  refine x_iloadn hX dL_setPolicy_3 rfl ?_
  rcases cx2_of h with ⟨e1, M1, ee, h⟩ | ⟨r1, M1, er, h⟩
  · by_cases q2 : e1 = 2
    · replace h := (if_pos q2).symm.trans h
      subst q2
      refine x_xVc (pre := []) (suf := []) (z := (0, 9, 12, 13)) (x := 2) (t := 10) (As := [vi x1]) (rest := [vi 0, vr (xG X) a2]) hX hN rfl (fun q hq => by cases hq) (by decide) (by decide) w_959 dL_setPolicy_4 (c_X11_setPolicy (gk hX) (gl hX) hs x1 M _ _ ee) kX11_setPolicy vX11_setPolicy w_1380 (st0 hs) rfl rfl rfl rfl (Nat.le_of_ble_eq_true rfl) (Nat.le_of_ble_eq_true rfl) (Nat.le_of_ble_eq_true rfl) (fun q => ?_)
      refine x_astoreqn (ls' := [some (vr (xG X) 0), some (vi x1), some (vr (xG X) a2), some (.ref q)]) hX dL_setPolicy_12 rfl rfl ?_
      refine x_iconst hX dL_setPolicy_13 ?_
      cases h
      exact x_iretX hX dL_setPolicy_14 (Nat.le_of_ble_eq_true rfl) (Nat.le_of_ble_eq_true rfl)
    · replace h := (if_neg q2).symm.trans h
      cases h
  · refine x_xVr (t := 10) (As := [vi x1]) (rest := [vi 0, vr (xG X) a2]) hX dL_setPolicy_4 (c_X11_setPolicy (gk hX) (gl hX) hs x1 M _ _ er) kX11_setPolicy vX11_setPolicy w_1380 (st0 hs) rfl rfl rfl rfl (Nat.le_of_ble_eq_true rfl) (kh hN (Nat.le_of_ble_eq_true rfl) (Nat.le_of_ble_eq_true rfl)) ?_
    refine x_i2l hX dL_setPolicy_7 ?_
    refine x_last hX dL_setPolicy_8 h2 inc_0_1 ixc_0 ?_
    refine x_goto (tgt := 15) hX dL_setPolicy_9 (by decide) ?_
    refine x_iconst hX dL_setPolicy_15 ?_
    cases h
    exact x_iretX hX dL_setPolicy_16 (Nat.le_of_ble_eq_true rfl) (Nat.le_of_ble_eq_true rfl)
def hhL_setZones : List (Nat × Nat × Nat × Nat) := [(0, 10, 13, 13)]
theorem kL_setZones : MKh mL_setZones hhL_setZones 4 := ⟨ws_of 1386 (by decide +kernel) (by decide +kernel), w_149, by decide +kernel, Nat.le_of_ble_eq_true rfl, by decide +kernel, w_1385⟩
set_option maxRecDepth 100000 in
set_option maxHeartbeats 4000000 in
theorem c_L_setZones {l : Launch} {G : Gx} (hG : GOK G) (hl : l.stackTraces = false) (hs : SOK G) {a3 : Nat} (h3 : at_ G a3 4 1) (x1 : Int) (x2 : Int) (M : Mem) (r : Int) (Mr : Mem) (h : f_L_setZones a3 x1 x2 M = some (r, Mr)) : Cw l G mL_setZones hhL_setZones 3 2 12 [vr G 0, vi x1, vi x2, vr G a3] M (some (vi r)) Mr := by
  refine Cw_of (ls := [some (vr G 0), some (vi x1), some (vi x2), some (vr G a3), none]) hG hl kL_setZones rfl (Nat.le_of_ble_eq_true rfl) rfl rfl rfl rfl rfl (fun X eG el hX hN => ?_)
  subst eG; subst el
  unfold f_L_setZones at h
  refine x_aloadn hX dL_setZones_0 rfl ?_
  refine x_iconst hX dL_setZones_1 ?_
  refine x_aloadn hX dL_setZones_2 rfl ?_
  refine x_iloadn hX dL_setZones_3 rfl ?_
  refine x_iloadn hX dL_setZones_4 rfl ?_
  rcases cx2_of h with ⟨e1, M1, ee, h⟩ | ⟨r1, M1, er, h⟩
  · by_cases q2 : e1 = 2
    · replace h := (if_pos q2).symm.trans h
      subst q2
      refine x_xVc (pre := []) (suf := []) (z := (0, 10, 13, 13)) (x := 2) (t := 10) (As := [vi x1, vi x2]) (rest := [vi 0, vr (xG X) a3]) hX hN rfl (fun q hq => by cases hq) (by decide) (by decide) w_959 dL_setZones_5 (c_X11_setZones (gk hX) (gl hX) hs x1 x2 M _ _ ee) kX11_setZones vX11_setZones w_1387 (st0 hs) rfl rfl rfl rfl (Nat.le_of_ble_eq_true rfl) (Nat.le_of_ble_eq_true rfl) (Nat.le_of_ble_eq_true rfl) (fun q => ?_)
      refine x_astoreq (ls' := [some (vr (xG X) 0), some (vi x1), some (vi x2), some (vr (xG X) a3), some (.ref q)]) hX dL_setZones_13 rfl rfl ?_
      refine x_iconst hX dL_setZones_15 ?_
      cases h
      exact x_iretX hX dL_setZones_16 (Nat.le_of_ble_eq_true rfl) (Nat.le_of_ble_eq_true rfl)
    · replace h := (if_neg q2).symm.trans h
      cases h
  · refine x_xVr (t := 10) (As := [vi x1, vi x2]) (rest := [vi 0, vr (xG X) a3]) hX dL_setZones_5 (c_X11_setZones (gk hX) (gl hX) hs x1 x2 M _ _ er) kX11_setZones vX11_setZones w_1387 (st0 hs) rfl rfl rfl rfl (Nat.le_of_ble_eq_true rfl) (kh hN (Nat.le_of_ble_eq_true rfl) (Nat.le_of_ble_eq_true rfl)) ?_
    refine x_i2l hX dL_setZones_8 ?_
    refine x_last hX dL_setZones_9 h3 inc_0_1 ixc_0 ?_
    refine x_goto (tgt := 17) hX dL_setZones_10 (by decide) ?_
    refine x_iconst hX dL_setZones_17 ?_
    cases h
    exact x_iretX hX dL_setZones_18 (Nat.le_of_ble_eq_true rfl) (Nat.le_of_ble_eq_true rfl)
def hhL_zoneOf : List (Nat × Nat × Nat × Nat) := [(0, 9, 12, 21)]
theorem kL_zoneOf : MKh mL_zoneOf hhL_zoneOf 3 := ⟨ws_of 1394 (by decide +kernel) (by decide +kernel), w_149, by decide +kernel, Nat.le_of_ble_eq_true rfl, by decide +kernel, w_1393⟩
set_option maxRecDepth 100000 in
set_option maxHeartbeats 4000000 in
theorem c_L_zoneOf {l : Launch} {G : Gx} (hG : GOK G) (hl : l.stackTraces = false) (hs : SOK G) {a2 : Nat} (h2 : at_ G a2 4 1) (x1 : Int) (M : Mem) (r : Int) (Mr : Mem) (h : f_L_zoneOf a2 x1 M = some (r, Mr)) : Cw l G mL_zoneOf hhL_zoneOf 4 1 6 [vr G 0, vi x1, vr G a2] M (some (vi r)) Mr := by
  refine Cw_of (ls := [some (vr G 0), some (vi x1), some (vr G a2), none]) hG hl kL_zoneOf rfl (Nat.le_of_ble_eq_true rfl) rfl rfl rfl rfl rfl (fun X eG el hX hN => ?_)
  subst eG; subst el
  unfold f_L_zoneOf at h
  refine x_aloadn hX dL_zoneOf_0 rfl ?_
  refine x_iconst hX dL_zoneOf_1 ?_
  refine x_aloadn hX dL_zoneOf_2 rfl ?_
  refine x_iloadn hX dL_zoneOf_3 rfl ?_
  rcases cx1_of h with ⟨e1, ee, h⟩ | ⟨r1, er, h⟩
  · by_cases q3 : e1 = 3
    · replace h := (if_pos q3).symm.trans h
      subst q3
      refine x_xVc (pre := []) (suf := []) (z := (0, 9, 12, 21)) (x := 3) (t := 10) (As := [vi x1]) (rest := [vi 0, vr (xG X) a2]) hX hN rfl (fun q hq => by cases hq) (by decide) (by decide) w_1055 dL_zoneOf_4 (c_X11_zoneOf (gk hX) (gl hX) hs x1 M _ ee) kX11_zoneOf vX11_zoneOf w_1395 (st0 hs) rfl rfl rfl rfl (Nat.le_of_ble_eq_true rfl) (Nat.le_of_ble_eq_true rfl) (Nat.le_of_ble_eq_true rfl) (fun q => ?_)
      refine x_astoreqn (ls' := [some (vr (xG X) 0), some (vi x1), some (vr (xG X) a2), some (.ref q)]) hX dL_zoneOf_12 rfl rfl ?_
      refine x_iconst hX dL_zoneOf_13 ?_
      cases h
      exact x_iretX hX dL_zoneOf_14 (Nat.le_of_ble_eq_true rfl) (Nat.le_of_ble_eq_true rfl)
    · replace h := (if_neg q3).symm.trans h
      cases h
  · refine x_xVr (t := 10) (As := [vi x1]) (rest := [vi 0, vr (xG X) a2]) hX dL_zoneOf_4 (c_X11_zoneOf (gk hX) (gl hX) hs x1 M _ er) kX11_zoneOf vX11_zoneOf w_1395 (st0 hs) rfl rfl rfl rfl (Nat.le_of_ble_eq_true rfl) (kh hN (Nat.le_of_ble_eq_true rfl) (Nat.le_of_ble_eq_true rfl)) ?_
    refine x_i2l hX dL_zoneOf_7 ?_
    refine x_last hX dL_zoneOf_8 h2 inc_0_1 ixc_0 ?_
    refine x_goto (tgt := 15) hX dL_zoneOf_9 (by decide) ?_
    refine x_iconst hX dL_zoneOf_15 ?_
    cases h
    exact x_iretX hX dL_zoneOf_16 (Nat.le_of_ble_eq_true rfl) (Nat.le_of_ble_eq_true rfl)
def hhL_setBuffer : List (Nat × Nat × Nat × Nat) := [(0, 10, 13, 21), (0, 10, 17, 13)]
theorem kL_setBuffer : MKh mL_setBuffer hhL_setBuffer 4 := ⟨ws_of 1405 (by decide +kernel) (by decide +kernel), w_149, by decide +kernel, Nat.le_of_ble_eq_true rfl, by decide +kernel, w_1404⟩
set_option maxRecDepth 100000 in
set_option maxHeartbeats 4000000 in
theorem c_L_setBuffer {l : Launch} {G : Gx} (hG : GOK G) (hl : l.stackTraces = false) (hs : SOK G) {a3 : Nat} (h3 : at_ G a3 4 1) (x1 : Int) (x2 : Int) (M : Mem) (r : Int) (Mr : Mem) (h : f_L_setBuffer a3 x1 x2 M = some (r, Mr)) : Cw l G mL_setBuffer hhL_setBuffer 3 2 12 [vr G 0, vi x1, vi x2, vr G a3] M (some (vi r)) Mr := by
  refine Cw_of (ls := [some (vr G 0), some (vi x1), some (vi x2), some (vr G a3), none]) hG hl kL_setBuffer rfl (Nat.le_of_ble_eq_true rfl) rfl rfl rfl rfl rfl (fun X eG el hX hN => ?_)
  subst eG; subst el
  unfold f_L_setBuffer at h
  refine x_aloadn hX dL_setBuffer_0 rfl ?_
  refine x_iconst hX dL_setBuffer_1 ?_
  refine x_aloadn hX dL_setBuffer_2 rfl ?_
  refine x_iloadn hX dL_setBuffer_3 rfl ?_
  refine x_iloadn hX dL_setBuffer_4 rfl ?_
  rcases cx2_of h with ⟨e1, M1, ee, h⟩ | ⟨r1, M1, er, h⟩
  · by_cases q3 : e1 = 3
    · replace h := (if_pos q3).symm.trans h
      subst q3
      refine x_xVc (pre := []) (suf := [(0, 10, 17, 13)]) (z := (0, 10, 13, 21)) (x := 3) (t := 10) (As := [vi x1, vi x2]) (rest := [vi 0, vr (xG X) a3]) hX hN rfl (fun q hq => by cases hq) (by decide) (by decide) w_1055 dL_setBuffer_5 (c_X11_setBuffer (gk hX) (gl hX) hs x1 x2 M _ _ ee) kX11_setBuffer vX11_setBuffer w_1406 (st0 hs) rfl rfl rfl rfl (Nat.le_of_ble_eq_true rfl) (Nat.le_of_ble_eq_true rfl) (Nat.le_of_ble_eq_true rfl) (fun q => ?_)
      refine x_astoreq (ls' := [some (vr (xG X) 0), some (vi x1), some (vi x2), some (vr (xG X) a3), some (.ref q)]) hX dL_setBuffer_13 rfl rfl ?_
      refine x_iconst hX dL_setBuffer_15 ?_
      cases h
      exact x_iretX hX dL_setBuffer_16 (Nat.le_of_ble_eq_true rfl) (Nat.le_of_ble_eq_true rfl)
    · replace h := (if_neg q3).symm.trans h
      by_cases q2 : e1 = 2
      · replace h := (if_pos q2).symm.trans h
        subst q2
        refine x_xVc (pre := [(0, 10, 13, 21)]) (suf := []) (z := (0, 10, 17, 13)) (x := 2) (t := 10) (As := [vi x1, vi x2]) (rest := [vi 0, vr (xG X) a3]) hX hN rfl (List.forall_mem_cons.mpr ⟨⟨by decide, "java/lang/IndexOutOfBoundsException", by decide +kernel, by decide +kernel, w_1055⟩, fun q hq => by cases hq⟩) (by decide) (by decide) w_959 dL_setBuffer_5 (c_X11_setBuffer (gk hX) (gl hX) hs x1 x2 M _ _ ee) kX11_setBuffer vX11_setBuffer w_1406 (st0 hs) rfl rfl rfl rfl (Nat.le_of_ble_eq_true rfl) (Nat.le_of_ble_eq_true rfl) (Nat.le_of_ble_eq_true rfl) (fun q => ?_)
        refine x_astoreq (ls' := [some (vr (xG X) 0), some (vi x1), some (vi x2), some (vr (xG X) a3), some (.ref q)]) hX dL_setBuffer_17 rfl rfl ?_
        refine x_iconst hX dL_setBuffer_19 ?_
        cases h
        exact x_iretX hX dL_setBuffer_20 (Nat.le_of_ble_eq_true rfl) (Nat.le_of_ble_eq_true rfl)
      · replace h := (if_neg q2).symm.trans h
        cases h
  · refine x_xVr (t := 10) (As := [vi x1, vi x2]) (rest := [vi 0, vr (xG X) a3]) hX dL_setBuffer_5 (c_X11_setBuffer (gk hX) (gl hX) hs x1 x2 M _ _ er) kX11_setBuffer vX11_setBuffer w_1406 (st0 hs) rfl rfl rfl rfl (Nat.le_of_ble_eq_true rfl) (kh hN (Nat.le_of_ble_eq_true rfl) (Nat.le_of_ble_eq_true rfl)) ?_
    refine x_i2l hX dL_setBuffer_8 ?_
    refine x_last hX dL_setBuffer_9 h3 inc_0_1 ixc_0 ?_
    refine x_goto (tgt := 21) hX dL_setBuffer_10 (by decide) ?_
    refine x_iconst hX dL_setBuffer_21 ?_
    cases h
    exact x_iretX hX dL_setBuffer_22 (Nat.le_of_ble_eq_true rfl) (Nat.le_of_ble_eq_true rfl)
def hhL_setTimes : List (Nat × Nat × Nat × Nat) := [(0, 10, 13, 13)]
theorem kL_setTimes : MKh mL_setTimes hhL_setTimes 4 := ⟨ws_of 1412 (by decide +kernel) (by decide +kernel), w_149, by decide +kernel, Nat.le_of_ble_eq_true rfl, by decide +kernel, w_1411⟩
set_option maxRecDepth 100000 in
set_option maxHeartbeats 4000000 in
theorem c_L_setTimes {l : Launch} {G : Gx} (hG : GOK G) (hl : l.stackTraces = false) (hs : SOK G) {a3 : Nat} (h3 : at_ G a3 4 1) (x1 : Int) (x2 : Int) (M : Mem) (r : Int) (Mr : Mem) (h : f_L_setTimes a3 x1 x2 M = some (r, Mr)) : Cw l G mL_setTimes hhL_setTimes 3 2 12 [vr G 0, vi x1, vi x2, vr G a3] M (some (vi r)) Mr := by
  refine Cw_of (ls := [some (vr G 0), some (vi x1), some (vi x2), some (vr G a3), none]) hG hl kL_setTimes rfl (Nat.le_of_ble_eq_true rfl) rfl rfl rfl rfl rfl (fun X eG el hX hN => ?_)
  subst eG; subst el
  unfold f_L_setTimes at h
  refine x_aloadn hX dL_setTimes_0 rfl ?_
  refine x_iconst hX dL_setTimes_1 ?_
  refine x_aloadn hX dL_setTimes_2 rfl ?_
  refine x_iloadn hX dL_setTimes_3 rfl ?_
  refine x_iloadn hX dL_setTimes_4 rfl ?_
  rcases cx2_of h with ⟨e1, M1, ee, h⟩ | ⟨r1, M1, er, h⟩
  · by_cases q2 : e1 = 2
    · replace h := (if_pos q2).symm.trans h
      subst q2
      refine x_xVc (pre := []) (suf := []) (z := (0, 10, 13, 13)) (x := 2) (t := 10) (As := [vi x1, vi x2]) (rest := [vi 0, vr (xG X) a3]) hX hN rfl (fun q hq => by cases hq) (by decide) (by decide) w_959 dL_setTimes_5 (c_X11_setTimes (gk hX) (gl hX) hs x1 x2 M _ _ ee) kX11_setTimes vX11_setTimes w_1413 (st0 hs) rfl rfl rfl rfl (Nat.le_of_ble_eq_true rfl) (Nat.le_of_ble_eq_true rfl) (Nat.le_of_ble_eq_true rfl) (fun q => ?_)
      refine x_astoreq (ls' := [some (vr (xG X) 0), some (vi x1), some (vi x2), some (vr (xG X) a3), some (.ref q)]) hX dL_setTimes_13 rfl rfl ?_
      refine x_iconst hX dL_setTimes_15 ?_
      cases h
      exact x_iretX hX dL_setTimes_16 (Nat.le_of_ble_eq_true rfl) (Nat.le_of_ble_eq_true rfl)
    · replace h := (if_neg q2).symm.trans h
      cases h
  · refine x_xVr (t := 10) (As := [vi x1, vi x2]) (rest := [vi 0, vr (xG X) a3]) hX dL_setTimes_5 (c_X11_setTimes (gk hX) (gl hX) hs x1 x2 M _ _ er) kX11_setTimes vX11_setTimes w_1413 (st0 hs) rfl rfl rfl rfl (Nat.le_of_ble_eq_true rfl) (kh hN (Nat.le_of_ble_eq_true rfl) (Nat.le_of_ble_eq_true rfl)) ?_
    refine x_i2l hX dL_setTimes_8 ?_
    refine x_last hX dL_setTimes_9 h3 inc_0_1 ixc_0 ?_
    refine x_goto (tgt := 17) hX dL_setTimes_10 (by decide) ?_
    refine x_iconst hX dL_setTimes_17 ?_
    cases h
    exact x_iretX hX dL_setTimes_18 (Nat.le_of_ble_eq_true rfl) (Nat.le_of_ble_eq_true rfl)
def hhL_routeLength : List (Nat × Nat × Nat × Nat) := [(0, 12, 15, 21), (0, 12, 19, 13)]
theorem kL_routeLength : MKh mL_routeLength hhL_routeLength 5 := ⟨ws_of 1419 (by decide +kernel) (by decide +kernel), w_149, by decide +kernel, Nat.le_of_ble_eq_true rfl, by decide +kernel, w_1418⟩
set_option maxRecDepth 100000 in
set_option maxHeartbeats 4000000 in
theorem c_L_routeLength {l : Launch} {G : Gx} (hG : GOK G) (hl : l.stackTraces = false) (hs : SOK G) {a4 : Nat} (h4 : at_ G a4 4 1) (x1 : Int) (x2 : Int) (x3 : Int) (M : Mem) (r : Int) (Mr : Mem) (h : f_L_routeLength a4 x1 x2 x3 M = some (r, Mr)) : Cw l G mL_routeLength hhL_routeLength 5 3 18 [vr G 0, vi x1, vi x2, vi x3, vr G a4] M (some (vi r)) Mr := by
  refine Cw_of (ls := [some (vr G 0), some (vi x1), some (vi x2), some (vi x3), some (vr G a4), none]) hG hl kL_routeLength rfl (Nat.le_of_ble_eq_true rfl) rfl rfl rfl rfl rfl (fun X eG el hX hN => ?_)
  subst eG; subst el
  unfold f_L_routeLength at h
  refine x_aload hX dL_routeLength_0 rfl ?_
  refine x_iconst hX dL_routeLength_2 ?_
  refine x_aloadn hX dL_routeLength_3 rfl ?_
  refine x_iloadn hX dL_routeLength_4 rfl ?_
  refine x_iloadn hX dL_routeLength_5 rfl ?_
  refine x_iloadn hX dL_routeLength_6 rfl ?_
  rcases cx2_of h with ⟨e1, M1, ee, h⟩ | ⟨r1, M1, er, h⟩
  · by_cases q3 : e1 = 3
    · replace h := (if_pos q3).symm.trans h
      subst q3
      refine x_xVc (pre := []) (suf := [(0, 12, 19, 13)]) (z := (0, 12, 15, 21)) (x := 3) (t := 10) (As := [vi x1, vi x2, vi x3]) (rest := [vi 0, vr (xG X) a4]) hX hN rfl (fun q hq => by cases hq) (by decide) (by decide) w_1055 dL_routeLength_7 (c_X11_routeLength (gk hX) (gl hX) hs x1 x2 x3 M _ _ ee) kX11_routeLength vX11_routeLength w_1420 (st0 hs) rfl rfl rfl rfl (Nat.le_of_ble_eq_true rfl) (Nat.le_of_ble_eq_true rfl) (Nat.le_of_ble_eq_true rfl) (fun q => ?_)
      refine x_astoreq (ls' := [some (vr (xG X) 0), some (vi x1), some (vi x2), some (vi x3), some (vr (xG X) a4), some (.ref q)]) hX dL_routeLength_15 rfl rfl ?_
      refine x_iconst hX dL_routeLength_17 ?_
      cases h
      exact x_iretX hX dL_routeLength_18 (Nat.le_of_ble_eq_true rfl) (Nat.le_of_ble_eq_true rfl)
    · replace h := (if_neg q3).symm.trans h
      by_cases q2 : e1 = 2
      · replace h := (if_pos q2).symm.trans h
        subst q2
        refine x_xVc (pre := [(0, 12, 15, 21)]) (suf := []) (z := (0, 12, 19, 13)) (x := 2) (t := 10) (As := [vi x1, vi x2, vi x3]) (rest := [vi 0, vr (xG X) a4]) hX hN rfl (List.forall_mem_cons.mpr ⟨⟨by decide, "java/lang/IndexOutOfBoundsException", by decide +kernel, by decide +kernel, w_1055⟩, fun q hq => by cases hq⟩) (by decide) (by decide) w_959 dL_routeLength_7 (c_X11_routeLength (gk hX) (gl hX) hs x1 x2 x3 M _ _ ee) kX11_routeLength vX11_routeLength w_1420 (st0 hs) rfl rfl rfl rfl (Nat.le_of_ble_eq_true rfl) (Nat.le_of_ble_eq_true rfl) (Nat.le_of_ble_eq_true rfl) (fun q => ?_)
        refine x_astoreq (ls' := [some (vr (xG X) 0), some (vi x1), some (vi x2), some (vi x3), some (vr (xG X) a4), some (.ref q)]) hX dL_routeLength_19 rfl rfl ?_
        refine x_iconst hX dL_routeLength_21 ?_
        cases h
        exact x_iretX hX dL_routeLength_22 (Nat.le_of_ble_eq_true rfl) (Nat.le_of_ble_eq_true rfl)
      · replace h := (if_neg q2).symm.trans h
        cases h
  · refine x_xVr (t := 10) (As := [vi x1, vi x2, vi x3]) (rest := [vi 0, vr (xG X) a4]) hX dL_routeLength_7 (c_X11_routeLength (gk hX) (gl hX) hs x1 x2 x3 M _ _ er) kX11_routeLength vX11_routeLength w_1420 (st0 hs) rfl rfl rfl rfl (Nat.le_of_ble_eq_true rfl) (kh hN (Nat.le_of_ble_eq_true rfl) (Nat.le_of_ble_eq_true rfl)) ?_
    refine x_i2l hX dL_routeLength_10 ?_
    refine x_last hX dL_routeLength_11 h4 inc_0_1 ixc_0 ?_
    refine x_goto (tgt := 23) hX dL_routeLength_12 (by decide) ?_
    refine x_iconst hX dL_routeLength_23 ?_
    cases h
    exact x_iretX hX dL_routeLength_24 (Nat.le_of_ble_eq_true rfl) (Nat.le_of_ble_eq_true rfl)
def hhL_batchRoute : List (Nat × Nat × Nat × Nat) := [(0, 9, 12, 21)]
theorem kL_batchRoute : MKh mL_batchRoute hhL_batchRoute 3 := ⟨ws_of 1432 (by decide +kernel) (by decide +kernel), w_149, by decide +kernel, Nat.le_of_ble_eq_true rfl, by decide +kernel, w_1431⟩
set_option maxRecDepth 100000 in
set_option maxHeartbeats 4000000 in
theorem c_L_batchRoute {l : Launch} {G : Gx} (hG : GOK G) (hl : l.stackTraces = false) (hs : SOK G) {a2 : Nat} (h2 : at_ G a2 4 1) (x1 : Int) (M : Mem) (r : Int) (Mr : Mem) (h : f_L_batchRoute a2 x1 M = some (r, Mr)) : Cw l G mL_batchRoute hhL_batchRoute 6 1 6 [vr G 0, vi x1, vr G a2] M (some (vi r)) Mr := by
  refine Cw_of (ls := [some (vr G 0), some (vi x1), some (vr G a2), none]) hG hl kL_batchRoute rfl (Nat.le_of_ble_eq_true rfl) rfl rfl rfl rfl rfl (fun X eG el hX hN => ?_)
  subst eG; subst el
  unfold f_L_batchRoute at h
  refine x_aloadn hX dL_batchRoute_0 rfl ?_
  refine x_iconst hX dL_batchRoute_1 ?_
  refine x_aloadn hX dL_batchRoute_2 rfl ?_
  refine x_iloadn hX dL_batchRoute_3 rfl ?_
  rcases cx2_of h with ⟨e1, M1, ee, h⟩ | ⟨r1, M1, er, h⟩
  · by_cases q3 : e1 = 3
    · replace h := (if_pos q3).symm.trans h
      subst q3
      refine x_xVc (pre := []) (suf := []) (z := (0, 9, 12, 21)) (x := 3) (t := 10) (As := [vi x1]) (rest := [vi 0, vr (xG X) a2]) hX hN rfl (fun q hq => by cases hq) (by decide) (by decide) w_1055 dL_batchRoute_4 (c_X11_batchRoute (gk hX) (gl hX) hs x1 M _ _ ee) kX11_batchRoute vX11_batchRoute w_1433 (st0 hs) rfl rfl rfl rfl (Nat.le_of_ble_eq_true rfl) (Nat.le_of_ble_eq_true rfl) (Nat.le_of_ble_eq_true rfl) (fun q => ?_)
      refine x_astoreqn (ls' := [some (vr (xG X) 0), some (vi x1), some (vr (xG X) a2), some (.ref q)]) hX dL_batchRoute_12 rfl rfl ?_
      refine x_iconst hX dL_batchRoute_13 ?_
      cases h
      exact x_iretX hX dL_batchRoute_14 (Nat.le_of_ble_eq_true rfl) (Nat.le_of_ble_eq_true rfl)
    · replace h := (if_neg q3).symm.trans h
      cases h
  · refine x_xVr (t := 10) (As := [vi x1]) (rest := [vi 0, vr (xG X) a2]) hX dL_batchRoute_4 (c_X11_batchRoute (gk hX) (gl hX) hs x1 M _ _ er) kX11_batchRoute vX11_batchRoute w_1433 (st0 hs) rfl rfl rfl rfl (Nat.le_of_ble_eq_true rfl) (kh hN (Nat.le_of_ble_eq_true rfl) (Nat.le_of_ble_eq_true rfl)) ?_
    refine x_i2l hX dL_batchRoute_7 ?_
    refine x_last hX dL_batchRoute_8 h2 inc_0_1 ixc_0 ?_
    refine x_goto (tgt := 15) hX dL_batchRoute_9 (by decide) ?_
    refine x_iconst hX dL_batchRoute_15 ?_
    cases h
    exact x_iretX hX dL_batchRoute_16 (Nat.le_of_ble_eq_true rfl) (Nat.le_of_ble_eq_true rfl)
def hhL_bestPolicy : List (Nat × Nat × Nat × Nat) := [(0, 9, 12, 21)]
theorem kL_bestPolicy : MKh mL_bestPolicy hhL_bestPolicy 3 := ⟨ws_of 1439 (by decide +kernel) (by decide +kernel), w_149, by decide +kernel, Nat.le_of_ble_eq_true rfl, by decide +kernel, w_1438⟩
set_option maxRecDepth 100000 in
set_option maxHeartbeats 4000000 in
theorem c_L_bestPolicy {l : Launch} {G : Gx} (hG : GOK G) (hl : l.stackTraces = false) (hs : SOK G) {a2 : Nat} (h2 : at_ G a2 4 1) (x1 : Int) (M : Mem) (r : Int) (Mr : Mem) (h : f_L_bestPolicy a2 x1 M = some (r, Mr)) : Cw l G mL_bestPolicy hhL_bestPolicy 6 1 6 [vr G 0, vi x1, vr G a2] M (some (vi r)) Mr := by
  refine Cw_of (ls := [some (vr G 0), some (vi x1), some (vr G a2), none]) hG hl kL_bestPolicy rfl (Nat.le_of_ble_eq_true rfl) rfl rfl rfl rfl rfl (fun X eG el hX hN => ?_)
  subst eG; subst el
  unfold f_L_bestPolicy at h
  refine x_aloadn hX dL_bestPolicy_0 rfl ?_
  refine x_iconst hX dL_bestPolicy_1 ?_
  refine x_aloadn hX dL_bestPolicy_2 rfl ?_
  refine x_iloadn hX dL_bestPolicy_3 rfl ?_
  rcases cx2_of h with ⟨e1, M1, ee, h⟩ | ⟨r1, M1, er, h⟩
  · by_cases q3 : e1 = 3
    · replace h := (if_pos q3).symm.trans h
      subst q3
      refine x_xVc (pre := []) (suf := []) (z := (0, 9, 12, 21)) (x := 3) (t := 10) (As := [vi x1]) (rest := [vi 0, vr (xG X) a2]) hX hN rfl (fun q hq => by cases hq) (by decide) (by decide) w_1055 dL_bestPolicy_4 (c_X11_bestPolicy (gk hX) (gl hX) hs x1 M _ _ ee) kX11_bestPolicy vX11_bestPolicy w_1440 (st0 hs) rfl rfl rfl rfl (Nat.le_of_ble_eq_true rfl) (Nat.le_of_ble_eq_true rfl) (Nat.le_of_ble_eq_true rfl) (fun q => ?_)
      refine x_astoreqn (ls' := [some (vr (xG X) 0), some (vi x1), some (vr (xG X) a2), some (.ref q)]) hX dL_bestPolicy_12 rfl rfl ?_
      refine x_iconst hX dL_bestPolicy_13 ?_
      cases h
      exact x_iretX hX dL_bestPolicy_14 (Nat.le_of_ble_eq_true rfl) (Nat.le_of_ble_eq_true rfl)
    · replace h := (if_neg q3).symm.trans h
      cases h
  · refine x_xVr (t := 10) (As := [vi x1]) (rest := [vi 0, vr (xG X) a2]) hX dL_bestPolicy_4 (c_X11_bestPolicy (gk hX) (gl hX) hs x1 M _ _ er) kX11_bestPolicy vX11_bestPolicy w_1440 (st0 hs) rfl rfl rfl rfl (Nat.le_of_ble_eq_true rfl) (kh hN (Nat.le_of_ble_eq_true rfl) (Nat.le_of_ble_eq_true rfl)) ?_
    refine x_i2l hX dL_bestPolicy_7 ?_
    refine x_last hX dL_bestPolicy_8 h2 inc_0_1 ixc_0 ?_
    refine x_goto (tgt := 15) hX dL_bestPolicy_9 (by decide) ?_
    refine x_iconst hX dL_bestPolicy_15 ?_
    cases h
    exact x_iretX hX dL_bestPolicy_16 (Nat.le_of_ble_eq_true rfl) (Nat.le_of_ble_eq_true rfl)
def hhL_stopCount : List (Nat × Nat × Nat × Nat) := [(0, 10, 13, 21)]
theorem kL_stopCount : MKh mL_stopCount hhL_stopCount 4 := ⟨ws_of 1446 (by decide +kernel) (by decide +kernel), w_149, by decide +kernel, Nat.le_of_ble_eq_true rfl, by decide +kernel, w_1445⟩
set_option maxRecDepth 100000 in
set_option maxHeartbeats 4000000 in
theorem c_L_stopCount {l : Launch} {G : Gx} (hG : GOK G) (hl : l.stackTraces = false) (hs : SOK G) {a3 : Nat} (h3 : at_ G a3 4 1) (x1 : Int) (x2 : Int) (M : Mem) (r : Int) (Mr : Mem) (h : f_L_stopCount a3 x1 x2 M = some (r, Mr)) : Cw l G mL_stopCount hhL_stopCount 4 2 12 [vr G 0, vi x1, vi x2, vr G a3] M (some (vi r)) Mr := by
  refine Cw_of (ls := [some (vr G 0), some (vi x1), some (vi x2), some (vr G a3), none]) hG hl kL_stopCount rfl (Nat.le_of_ble_eq_true rfl) rfl rfl rfl rfl rfl (fun X eG el hX hN => ?_)
  subst eG; subst el
  unfold f_L_stopCount at h
  refine x_aloadn hX dL_stopCount_0 rfl ?_
  refine x_iconst hX dL_stopCount_1 ?_
  refine x_aloadn hX dL_stopCount_2 rfl ?_
  refine x_iloadn hX dL_stopCount_3 rfl ?_
  refine x_iloadn hX dL_stopCount_4 rfl ?_
  rcases cx2_of h with ⟨e1, M1, ee, h⟩ | ⟨r1, M1, er, h⟩
  · by_cases q3 : e1 = 3
    · replace h := (if_pos q3).symm.trans h
      subst q3
      refine x_xVc (pre := []) (suf := []) (z := (0, 10, 13, 21)) (x := 3) (t := 10) (As := [vi x1, vi x2]) (rest := [vi 0, vr (xG X) a3]) hX hN rfl (fun q hq => by cases hq) (by decide) (by decide) w_1055 dL_stopCount_5 (c_X11_stopCount (gk hX) (gl hX) hs x1 x2 M _ _ ee) kX11_stopCount vX11_stopCount w_1447 (st0 hs) rfl rfl rfl rfl (Nat.le_of_ble_eq_true rfl) (Nat.le_of_ble_eq_true rfl) (Nat.le_of_ble_eq_true rfl) (fun q => ?_)
      refine x_astoreq (ls' := [some (vr (xG X) 0), some (vi x1), some (vi x2), some (vr (xG X) a3), some (.ref q)]) hX dL_stopCount_13 rfl rfl ?_
      refine x_iconst hX dL_stopCount_15 ?_
      cases h
      exact x_iretX hX dL_stopCount_16 (Nat.le_of_ble_eq_true rfl) (Nat.le_of_ble_eq_true rfl)
    · replace h := (if_neg q3).symm.trans h
      cases h
  · refine x_xVr (t := 10) (As := [vi x1, vi x2]) (rest := [vi 0, vr (xG X) a3]) hX dL_stopCount_5 (c_X11_stopCount (gk hX) (gl hX) hs x1 x2 M _ _ er) kX11_stopCount vX11_stopCount w_1447 (st0 hs) rfl rfl rfl rfl (Nat.le_of_ble_eq_true rfl) (kh hN (Nat.le_of_ble_eq_true rfl) (Nat.le_of_ble_eq_true rfl)) ?_
    refine x_i2l hX dL_stopCount_8 ?_
    refine x_last hX dL_stopCount_9 h3 inc_0_1 ixc_0 ?_
    refine x_goto (tgt := 17) hX dL_stopCount_10 (by decide) ?_
    refine x_iconst hX dL_stopCount_17 ?_
    cases h
    exact x_iretX hX dL_stopCount_18 (Nat.le_of_ble_eq_true rfl) (Nat.le_of_ble_eq_true rfl)
def hhL_stopItem : List (Nat × Nat × Nat × Nat) := [(0, 12, 15, 21)]
theorem kL_stopItem : MKh mL_stopItem hhL_stopItem 5 := ⟨ws_of 1454 (by decide +kernel) (by decide +kernel), w_149, by decide +kernel, Nat.le_of_ble_eq_true rfl, by decide +kernel, w_1453⟩
set_option maxRecDepth 100000 in
set_option maxHeartbeats 4000000 in
theorem c_L_stopItem {l : Launch} {G : Gx} (hG : GOK G) (hl : l.stackTraces = false) (hs : SOK G) {a4 : Nat} (h4 : at_ G a4 4 1) (x1 : Int) (x2 : Int) (x3 : Int) (M : Mem) (r : Int) (Mr : Mem) (h : f_L_stopItem a4 x1 x2 x3 M = some (r, Mr)) : Cw l G mL_stopItem hhL_stopItem 7 3 18 [vr G 0, vi x1, vi x2, vi x3, vr G a4] M (some (vi r)) Mr := by
  refine Cw_of (ls := [some (vr G 0), some (vi x1), some (vi x2), some (vi x3), some (vr G a4), none]) hG hl kL_stopItem rfl (Nat.le_of_ble_eq_true rfl) rfl rfl rfl rfl rfl (fun X eG el hX hN => ?_)
  subst eG; subst el
  unfold f_L_stopItem at h
  refine x_aload hX dL_stopItem_0 rfl ?_
  refine x_iconst hX dL_stopItem_2 ?_
  refine x_aloadn hX dL_stopItem_3 rfl ?_
  refine x_iloadn hX dL_stopItem_4 rfl ?_
  refine x_iloadn hX dL_stopItem_5 rfl ?_
  refine x_iloadn hX dL_stopItem_6 rfl ?_
  rcases cx2_of h with ⟨e1, M1, ee, h⟩ | ⟨r1, M1, er, h⟩
  · by_cases q3 : e1 = 3
    · replace h := (if_pos q3).symm.trans h
      subst q3
      refine x_xVc (pre := []) (suf := []) (z := (0, 12, 15, 21)) (x := 3) (t := 10) (As := [vi x1, vi x2, vi x3]) (rest := [vi 0, vr (xG X) a4]) hX hN rfl (fun q hq => by cases hq) (by decide) (by decide) w_1055 dL_stopItem_7 (c_X11_stopItem (gk hX) (gl hX) hs x1 x2 x3 M _ _ ee) kX11_stopItem vX11_stopItem w_1455 (st0 hs) rfl rfl rfl rfl (Nat.le_of_ble_eq_true rfl) (Nat.le_of_ble_eq_true rfl) (Nat.le_of_ble_eq_true rfl) (fun q => ?_)
      refine x_astoreq (ls' := [some (vr (xG X) 0), some (vi x1), some (vi x2), some (vi x3), some (vr (xG X) a4), some (.ref q)]) hX dL_stopItem_15 rfl rfl ?_
      refine x_iconst hX dL_stopItem_17 ?_
      cases h
      exact x_iretX hX dL_stopItem_18 (Nat.le_of_ble_eq_true rfl) (Nat.le_of_ble_eq_true rfl)
    · replace h := (if_neg q3).symm.trans h
      cases h
  · refine x_xVr (t := 10) (As := [vi x1, vi x2, vi x3]) (rest := [vi 0, vr (xG X) a4]) hX dL_stopItem_7 (c_X11_stopItem (gk hX) (gl hX) hs x1 x2 x3 M _ _ er) kX11_stopItem vX11_stopItem w_1455 (st0 hs) rfl rfl rfl rfl (Nat.le_of_ble_eq_true rfl) (kh hN (Nat.le_of_ble_eq_true rfl) (Nat.le_of_ble_eq_true rfl)) ?_
    refine x_i2l hX dL_stopItem_10 ?_
    refine x_last hX dL_stopItem_11 h4 inc_0_1 ixc_0 ?_
    refine x_goto (tgt := 19) hX dL_stopItem_12 (by decide) ?_
    refine x_iconst hX dL_stopItem_19 ?_
    cases h
    exact x_iretX hX dL_stopItem_20 (Nat.le_of_ble_eq_true rfl) (Nat.le_of_ble_eq_true rfl)
def hhL_workTime : List (Nat × Nat × Nat × Nat) := [(0, 10, 13, 21)]
theorem kL_workTime : MKh mL_workTime hhL_workTime 4 := ⟨ws_of 1497 (by decide +kernel) (by decide +kernel), w_149, by decide +kernel, Nat.le_of_ble_eq_true rfl, by decide +kernel, w_1496⟩
set_option maxRecDepth 100000 in
set_option maxHeartbeats 4000000 in
theorem c_L_workTime {l : Launch} {G : Gx} (hG : GOK G) (hl : l.stackTraces = false) (hs : SOK G) {a3 : Nat} (h3 : at_ G a3 4 1) (x1 : Int) (x2 : Int) (M : Mem) (r : Int) (Mr : Mem) (h : f_L_workTime a3 x1 x2 M = some (r, Mr)) : Cw l G mL_workTime hhL_workTime 6 2 12 [vr G 0, vi x1, vi x2, vr G a3] M (some (vi r)) Mr := by
  refine Cw_of (ls := [some (vr G 0), some (vi x1), some (vi x2), some (vr G a3), none]) hG hl kL_workTime rfl (Nat.le_of_ble_eq_true rfl) rfl rfl rfl rfl rfl (fun X eG el hX hN => ?_)
  subst eG; subst el
  unfold f_L_workTime at h
  refine x_aloadn hX dL_workTime_0 rfl ?_
  refine x_iconst hX dL_workTime_1 ?_
  refine x_aloadn hX dL_workTime_2 rfl ?_
  refine x_iloadn hX dL_workTime_3 rfl ?_
  refine x_iloadn hX dL_workTime_4 rfl ?_
  rcases cx2_of h with ⟨e1, M1, ee, h⟩ | ⟨r1, M1, er, h⟩
  · by_cases q3 : e1 = 3
    · replace h := (if_pos q3).symm.trans h
      subst q3
      refine x_xVc (pre := []) (suf := []) (z := (0, 10, 13, 21)) (x := 3) (t := 10) (As := [vi x1, vi x2]) (rest := [vi 0, vr (xG X) a3]) hX hN rfl (fun q hq => by cases hq) (by decide) (by decide) w_1055 dL_workTime_5 (c_X11_workTime (gk hX) (gl hX) hs x1 x2 M _ _ ee) kX11_workTime vX11_workTime w_1498 (st0 hs) rfl rfl rfl rfl (Nat.le_of_ble_eq_true rfl) (Nat.le_of_ble_eq_true rfl) (Nat.le_of_ble_eq_true rfl) (fun q => ?_)
      refine x_astoreq (ls' := [some (vr (xG X) 0), some (vi x1), some (vi x2), some (vr (xG X) a3), some (.ref q)]) hX dL_workTime_13 rfl rfl ?_
      refine x_iconst hX dL_workTime_15 ?_
      cases h
      exact x_iretX hX dL_workTime_16 (Nat.le_of_ble_eq_true rfl) (Nat.le_of_ble_eq_true rfl)
    · replace h := (if_neg q3).symm.trans h
      cases h
  · refine x_xVr (t := 10) (As := [vi x1, vi x2]) (rest := [vi 0, vr (xG X) a3]) hX dL_workTime_5 (c_X11_workTime (gk hX) (gl hX) hs x1 x2 M _ _ er) kX11_workTime vX11_workTime w_1498 (st0 hs) rfl rfl rfl rfl (Nat.le_of_ble_eq_true rfl) (kh hN (Nat.le_of_ble_eq_true rfl) (Nat.le_of_ble_eq_true rfl)) ?_
    refine x_i2l hX dL_workTime_8 ?_
    refine x_last hX dL_workTime_9 h3 inc_0_1 ixc_0 ?_
    refine x_goto (tgt := 17) hX dL_workTime_10 (by decide) ?_
    refine x_iconst hX dL_workTime_17 ?_
    cases h
    exact x_iretX hX dL_workTime_18 (Nat.le_of_ble_eq_true rfl) (Nat.le_of_ble_eq_true rfl)
def hhL_startTime : List (Nat × Nat × Nat × Nat) := [(0, 10, 13, 21)]
theorem kL_startTime : MKh mL_startTime hhL_startTime 4 := ⟨ws_of 1505 (by decide +kernel) (by decide +kernel), w_149, by decide +kernel, Nat.le_of_ble_eq_true rfl, by decide +kernel, w_1504⟩
set_option maxRecDepth 100000 in
set_option maxHeartbeats 4000000 in
theorem c_L_startTime {l : Launch} {G : Gx} (hG : GOK G) (hl : l.stackTraces = false) (hs : SOK G) {a3 : Nat} (h3 : at_ G a3 4 1) (x1 : Int) (x2 : Int) (M : Mem) (r : Int) (Mr : Mem) (h : f_L_startTime a3 x1 x2 M = some (r, Mr)) : Cw l G mL_startTime hhL_startTime 7 2 12 [vr G 0, vi x1, vi x2, vr G a3] M (some (vi r)) Mr := by
  refine Cw_of (ls := [some (vr G 0), some (vi x1), some (vi x2), some (vr G a3), none]) hG hl kL_startTime rfl (Nat.le_of_ble_eq_true rfl) rfl rfl rfl rfl rfl (fun X eG el hX hN => ?_)
  subst eG; subst el
  unfold f_L_startTime at h
  refine x_aloadn hX dL_startTime_0 rfl ?_
  refine x_iconst hX dL_startTime_1 ?_
  refine x_aloadn hX dL_startTime_2 rfl ?_
  refine x_iloadn hX dL_startTime_3 rfl ?_
  refine x_iloadn hX dL_startTime_4 rfl ?_
  rcases cx2_of h with ⟨e1, M1, ee, h⟩ | ⟨r1, M1, er, h⟩
  · by_cases q3 : e1 = 3
    · replace h := (if_pos q3).symm.trans h
      subst q3
      refine x_xVc (pre := []) (suf := []) (z := (0, 10, 13, 21)) (x := 3) (t := 10) (As := [vi x1, vi x2]) (rest := [vi 0, vr (xG X) a3]) hX hN rfl (fun q hq => by cases hq) (by decide) (by decide) w_1055 dL_startTime_5 (c_X11_startTime (gk hX) (gl hX) hs x1 x2 M _ _ ee) kX11_startTime vX11_startTime w_1506 (st0 hs) rfl rfl rfl rfl (Nat.le_of_ble_eq_true rfl) (Nat.le_of_ble_eq_true rfl) (Nat.le_of_ble_eq_true rfl) (fun q => ?_)
      refine x_astoreq (ls' := [some (vr (xG X) 0), some (vi x1), some (vi x2), some (vr (xG X) a3), some (.ref q)]) hX dL_startTime_13 rfl rfl ?_
      refine x_iconst hX dL_startTime_15 ?_
      cases h
      exact x_iretX hX dL_startTime_16 (Nat.le_of_ble_eq_true rfl) (Nat.le_of_ble_eq_true rfl)
    · replace h := (if_neg q3).symm.trans h
      cases h
  · refine x_xVr (t := 10) (As := [vi x1, vi x2]) (rest := [vi 0, vr (xG X) a3]) hX dL_startTime_5 (c_X11_startTime (gk hX) (gl hX) hs x1 x2 M _ _ er) kX11_startTime vX11_startTime w_1506 (st0 hs) rfl rfl rfl rfl (Nat.le_of_ble_eq_true rfl) (kh hN (Nat.le_of_ble_eq_true rfl) (Nat.le_of_ble_eq_true rfl)) ?_
    refine x_i2l hX dL_startTime_8 ?_
    refine x_last hX dL_startTime_9 h3 inc_0_1 ixc_0 ?_
    refine x_goto (tgt := 17) hX dL_startTime_10 (by decide) ?_
    refine x_iconst hX dL_startTime_17 ?_
    cases h
    exact x_iretX hX dL_startTime_18 (Nat.le_of_ble_eq_true rfl) (Nat.le_of_ble_eq_true rfl)
def hhL_leaveTime : List (Nat × Nat × Nat × Nat) := [(0, 10, 13, 21)]
theorem kL_leaveTime : MKh mL_leaveTime hhL_leaveTime 4 := ⟨ws_of 1512 (by decide +kernel) (by decide +kernel), w_149, by decide +kernel, Nat.le_of_ble_eq_true rfl, by decide +kernel, w_1511⟩
set_option maxRecDepth 100000 in
set_option maxHeartbeats 4000000 in
theorem c_L_leaveTime {l : Launch} {G : Gx} (hG : GOK G) (hl : l.stackTraces = false) (hs : SOK G) {a3 : Nat} (h3 : at_ G a3 4 1) (x1 : Int) (x2 : Int) (M : Mem) (r : Int) (Mr : Mem) (h : f_L_leaveTime a3 x1 x2 M = some (r, Mr)) : Cw l G mL_leaveTime hhL_leaveTime 7 2 12 [vr G 0, vi x1, vi x2, vr G a3] M (some (vi r)) Mr := by
  refine Cw_of (ls := [some (vr G 0), some (vi x1), some (vi x2), some (vr G a3), none]) hG hl kL_leaveTime rfl (Nat.le_of_ble_eq_true rfl) rfl rfl rfl rfl rfl (fun X eG el hX hN => ?_)
  subst eG; subst el
  unfold f_L_leaveTime at h
  refine x_aloadn hX dL_leaveTime_0 rfl ?_
  refine x_iconst hX dL_leaveTime_1 ?_
  refine x_aloadn hX dL_leaveTime_2 rfl ?_
  refine x_iloadn hX dL_leaveTime_3 rfl ?_
  refine x_iloadn hX dL_leaveTime_4 rfl ?_
  rcases cx2_of h with ⟨e1, M1, ee, h⟩ | ⟨r1, M1, er, h⟩
  · by_cases q3 : e1 = 3
    · replace h := (if_pos q3).symm.trans h
      subst q3
      refine x_xVc (pre := []) (suf := []) (z := (0, 10, 13, 21)) (x := 3) (t := 10) (As := [vi x1, vi x2]) (rest := [vi 0, vr (xG X) a3]) hX hN rfl (fun q hq => by cases hq) (by decide) (by decide) w_1055 dL_leaveTime_5 (c_X11_leaveTime (gk hX) (gl hX) hs x1 x2 M _ _ ee) kX11_leaveTime vX11_leaveTime w_1513 (st0 hs) rfl rfl rfl rfl (Nat.le_of_ble_eq_true rfl) (Nat.le_of_ble_eq_true rfl) (Nat.le_of_ble_eq_true rfl) (fun q => ?_)
      refine x_astoreq (ls' := [some (vr (xG X) 0), some (vi x1), some (vi x2), some (vr (xG X) a3), some (.ref q)]) hX dL_leaveTime_13 rfl rfl ?_
      refine x_iconst hX dL_leaveTime_15 ?_
      cases h
      exact x_iretX hX dL_leaveTime_16 (Nat.le_of_ble_eq_true rfl) (Nat.le_of_ble_eq_true rfl)
    · replace h := (if_neg q3).symm.trans h
      cases h
  · refine x_xVr (t := 10) (As := [vi x1, vi x2]) (rest := [vi 0, vr (xG X) a3]) hX dL_leaveTime_5 (c_X11_leaveTime (gk hX) (gl hX) hs x1 x2 M _ _ er) kX11_leaveTime vX11_leaveTime w_1513 (st0 hs) rfl rfl rfl rfl (Nat.le_of_ble_eq_true rfl) (kh hN (Nat.le_of_ble_eq_true rfl) (Nat.le_of_ble_eq_true rfl)) ?_
    refine x_i2l hX dL_leaveTime_8 ?_
    refine x_last hX dL_leaveTime_9 h3 inc_0_1 ixc_0 ?_
    refine x_goto (tgt := 17) hX dL_leaveTime_10 (by decide) ?_
    refine x_iconst hX dL_leaveTime_17 ?_
    cases h
    exact x_iretX hX dL_leaveTime_18 (Nat.le_of_ble_eq_true rfl) (Nat.le_of_ble_eq_true rfl)
def hhL_blockedTime : List (Nat × Nat × Nat × Nat) := [(0, 9, 12, 21)]
theorem kL_blockedTime : MKh mL_blockedTime hhL_blockedTime 3 := ⟨ws_of 1519 (by decide +kernel) (by decide +kernel), w_149, by decide +kernel, Nat.le_of_ble_eq_true rfl, by decide +kernel, w_1518⟩
set_option maxRecDepth 100000 in
set_option maxHeartbeats 4000000 in
theorem c_L_blockedTime {l : Launch} {G : Gx} (hG : GOK G) (hl : l.stackTraces = false) (hs : SOK G) {a2 : Nat} (h2 : at_ G a2 4 1) (x1 : Int) (M : Mem) (r : Int) (Mr : Mem) (h : f_L_blockedTime a2 x1 M = some (r, Mr)) : Cw l G mL_blockedTime hhL_blockedTime 7 1 6 [vr G 0, vi x1, vr G a2] M (some (vi r)) Mr := by
  refine Cw_of (ls := [some (vr G 0), some (vi x1), some (vr G a2), none]) hG hl kL_blockedTime rfl (Nat.le_of_ble_eq_true rfl) rfl rfl rfl rfl rfl (fun X eG el hX hN => ?_)
  subst eG; subst el
  unfold f_L_blockedTime at h
  refine x_aloadn hX dL_blockedTime_0 rfl ?_
  refine x_iconst hX dL_blockedTime_1 ?_
  refine x_aloadn hX dL_blockedTime_2 rfl ?_
  refine x_iloadn hX dL_blockedTime_3 rfl ?_
  rcases cx2_of h with ⟨e1, M1, ee, h⟩ | ⟨r1, M1, er, h⟩
  · by_cases q3 : e1 = 3
    · replace h := (if_pos q3).symm.trans h
      subst q3
      refine x_xVc (pre := []) (suf := []) (z := (0, 9, 12, 21)) (x := 3) (t := 10) (As := [vi x1]) (rest := [vi 0, vr (xG X) a2]) hX hN rfl (fun q hq => by cases hq) (by decide) (by decide) w_1055 dL_blockedTime_4 (c_X11_blockedTime (gk hX) (gl hX) hs x1 M _ _ ee) kX11_blockedTime vX11_blockedTime w_1520 (st0 hs) rfl rfl rfl rfl (Nat.le_of_ble_eq_true rfl) (Nat.le_of_ble_eq_true rfl) (Nat.le_of_ble_eq_true rfl) (fun q => ?_)
      refine x_astoreqn (ls' := [some (vr (xG X) 0), some (vi x1), some (vr (xG X) a2), some (.ref q)]) hX dL_blockedTime_12 rfl rfl ?_
      refine x_iconst hX dL_blockedTime_13 ?_
      cases h
      exact x_iretX hX dL_blockedTime_14 (Nat.le_of_ble_eq_true rfl) (Nat.le_of_ble_eq_true rfl)
    · replace h := (if_neg q3).symm.trans h
      cases h
  · refine x_xVr (t := 10) (As := [vi x1]) (rest := [vi 0, vr (xG X) a2]) hX dL_blockedTime_4 (c_X11_blockedTime (gk hX) (gl hX) hs x1 M _ _ er) kX11_blockedTime vX11_blockedTime w_1520 (st0 hs) rfl rfl rfl rfl (Nat.le_of_ble_eq_true rfl) (kh hN (Nat.le_of_ble_eq_true rfl) (Nat.le_of_ble_eq_true rfl)) ?_
    refine x_i2l hX dL_blockedTime_7 ?_
    refine x_last hX dL_blockedTime_8 h2 inc_0_1 ixc_0 ?_
    refine x_goto (tgt := 15) hX dL_blockedTime_9 (by decide) ?_
    refine x_iconst hX dL_blockedTime_15 ?_
    cases h
    exact x_iretX hX dL_blockedTime_16 (Nat.le_of_ble_eq_true rfl) (Nat.le_of_ble_eq_true rfl)
def hhL_lateness : List (Nat × Nat × Nat × Nat) := [(0, 9, 12, 21), (0, 9, 15, 15)]
theorem kL_lateness : MKh mL_lateness hhL_lateness 3 := ⟨ws_of 1526 (by decide +kernel) (by decide +kernel), w_149, by decide +kernel, Nat.le_of_ble_eq_true rfl, by decide +kernel, w_1525⟩
set_option maxRecDepth 100000 in
set_option maxHeartbeats 4000000 in
theorem c_L_lateness {l : Launch} {G : Gx} (hG : GOK G) (hl : l.stackTraces = false) (hs : SOK G) {a2 : Nat} (h2 : at_ G a2 4 1) (x1 : Int) (M : Mem) (r : Int) (Mr : Mem) (h : f_L_lateness a2 x1 M = some (r, Mr)) : Cw l G mL_lateness hhL_lateness 7 2 12 [vr G 0, vi x1, vr G a2] M (some (vi r)) Mr := by
  refine Cw_of (ls := [some (vr G 0), some (vi x1), some (vr G a2), none]) hG hl kL_lateness rfl (Nat.le_of_ble_eq_true rfl) rfl rfl rfl rfl rfl (fun X eG el hX hN => ?_)
  subst eG; subst el
  unfold f_L_lateness at h
  refine x_aloadn hX dL_lateness_0 rfl ?_
  refine x_iconst hX dL_lateness_1 ?_
  refine x_aloadn hX dL_lateness_2 rfl ?_
  refine x_iloadn hX dL_lateness_3 rfl ?_
  rcases cx2_of h with ⟨e1, M1, ee, h⟩ | ⟨r1, M1, er, h⟩
  · by_cases q3 : e1 = 3
    · replace h := (if_pos q3).symm.trans h
      subst q3
      refine x_xVc (pre := []) (suf := [(0, 9, 15, 15)]) (z := (0, 9, 12, 21)) (x := 3) (t := 10) (As := [vi x1]) (rest := [vi 0, vr (xG X) a2]) hX hN rfl (fun q hq => by cases hq) (by decide) (by decide) w_1055 dL_lateness_4 (c_X11_lateness (gk hX) (gl hX) hs x1 M _ _ ee) kX11_lateness vX11_lateness w_1527 (st0 hs) rfl rfl rfl rfl (Nat.le_of_ble_eq_true rfl) (Nat.le_of_ble_eq_true rfl) (Nat.le_of_ble_eq_true rfl) (fun q => ?_)
      refine x_astoreqn (ls' := [some (vr (xG X) 0), some (vi x1), some (vr (xG X) a2), some (.ref q)]) hX dL_lateness_12 rfl rfl ?_
      refine x_iconst hX dL_lateness_13 ?_
      cases h
      exact x_iretX hX dL_lateness_14 (Nat.le_of_ble_eq_true rfl) (Nat.le_of_ble_eq_true rfl)
    · replace h := (if_neg q3).symm.trans h
      by_cases q1 : e1 = 1
      · replace h := (if_pos q1).symm.trans h
        subst q1
        refine x_xVc (pre := [(0, 9, 12, 21)]) (suf := []) (z := (0, 9, 15, 15)) (x := 1) (t := 10) (As := [vi x1]) (rest := [vi 0, vr (xG X) a2]) hX hN rfl (List.forall_mem_cons.mpr ⟨⟨by decide, "java/lang/IndexOutOfBoundsException", by decide +kernel, by decide +kernel, w_1055⟩, fun q hq => by cases hq⟩) (by decide) (by decide) w_960 dL_lateness_4 (c_X11_lateness (gk hX) (gl hX) hs x1 M _ _ ee) kX11_lateness vX11_lateness w_1527 (st0 hs) rfl rfl rfl rfl (Nat.le_of_ble_eq_true rfl) (Nat.le_of_ble_eq_true rfl) (Nat.le_of_ble_eq_true rfl) (fun q => ?_)
        refine x_astoreqn (ls' := [some (vr (xG X) 0), some (vi x1), some (vr (xG X) a2), some (.ref q)]) hX dL_lateness_15 rfl rfl ?_
        refine x_iconst hX dL_lateness_16 ?_
        cases h
        exact x_iretX hX dL_lateness_17 (Nat.le_of_ble_eq_true rfl) (Nat.le_of_ble_eq_true rfl)
      · replace h := (if_neg q1).symm.trans h
        cases h
  · refine x_xVr (t := 10) (As := [vi x1]) (rest := [vi 0, vr (xG X) a2]) hX dL_lateness_4 (c_X11_lateness (gk hX) (gl hX) hs x1 M _ _ er) kX11_lateness vX11_lateness w_1527 (st0 hs) rfl rfl rfl rfl (Nat.le_of_ble_eq_true rfl) (kh hN (Nat.le_of_ble_eq_true rfl) (Nat.le_of_ble_eq_true rfl)) ?_
    refine x_i2l hX dL_lateness_7 ?_
    refine x_last hX dL_lateness_8 h2 inc_0_1 ixc_0 ?_
    refine x_goto (tgt := 18) hX dL_lateness_9 (by decide) ?_
    refine x_iconst hX dL_lateness_18 ?_
    cases h
    exact x_iretX hX dL_lateness_19 (Nat.le_of_ble_eq_true rfl) (Nat.le_of_ble_eq_true rfl)
def hhL_pickBatch : List (Nat × Nat × Nat × Nat) := [(0, 8, 11, 15)]
theorem kL_pickBatch : MKh mL_pickBatch hhL_pickBatch 2 := ⟨ws_of 1535 (by decide +kernel) (by decide +kernel), w_149, by decide +kernel, Nat.le_of_ble_eq_true rfl, by decide +kernel, w_1534⟩
set_option maxRecDepth 100000 in
set_option maxHeartbeats 4000000 in
theorem c_L_pickBatch {l : Launch} {G : Gx} (hG : GOK G) (hl : l.stackTraces = false) (hs : SOK G) {a1 : Nat} (h1 : at_ G a1 4 1) (M : Mem) (r : Int) (Mr : Mem) (h : f_L_pickBatch a1  M = some (r, Mr)) : Cw l G mL_pickBatch hhL_pickBatch 4 1 6 [vr G 0, vr G a1] M (some (vi r)) Mr := by
  refine Cw_of (ls := [some (vr G 0), some (vr G a1), none]) hG hl kL_pickBatch rfl (Nat.le_of_ble_eq_true rfl) rfl rfl rfl rfl rfl (fun X eG el hX hN => ?_)
  subst eG; subst el
  unfold f_L_pickBatch at h
  refine x_aloadn hX dL_pickBatch_0 rfl ?_
  refine x_iconst hX dL_pickBatch_1 ?_
  refine x_aloadn hX dL_pickBatch_2 rfl ?_
  rcases cx2_of h with ⟨e1, M1, ee, h⟩ | ⟨r1, M1, er, h⟩
  · by_cases q1 : e1 = 1
    · replace h := (if_pos q1).symm.trans h
      subst q1
      refine x_xVc (pre := []) (suf := []) (z := (0, 8, 11, 15)) (x := 1) (t := 10) (As := []) (rest := [vi 0, vr (xG X) a1]) hX hN rfl (fun q hq => by cases hq) (by decide) (by decide) w_960 dL_pickBatch_3 (c_X11_pickBatch (gk hX) (gl hX) hs M _ _ ee) kX11_pickBatch vX11_pickBatch w_1536 (st0 hs) rfl rfl rfl rfl (Nat.le_of_ble_eq_true rfl) (Nat.le_of_ble_eq_true rfl) (Nat.le_of_ble_eq_true rfl) (fun q => ?_)
      refine x_astoreqn (ls' := [some (vr (xG X) 0), some (vr (xG X) a1), some (.ref q)]) hX dL_pickBatch_11 rfl rfl ?_
      refine x_iconst hX dL_pickBatch_12 ?_
      cases h
      exact x_iretX hX dL_pickBatch_13 (Nat.le_of_ble_eq_true rfl) (Nat.le_of_ble_eq_true rfl)
    · replace h := (if_neg q1).symm.trans h
      cases h
  · refine x_xVr (t := 10) (As := []) (rest := [vi 0, vr (xG X) a1]) hX dL_pickBatch_3 (c_X11_pickBatch (gk hX) (gl hX) hs M _ _ er) kX11_pickBatch vX11_pickBatch w_1536 (st0 hs) rfl rfl rfl rfl (Nat.le_of_ble_eq_true rfl) (kh hN (Nat.le_of_ble_eq_true rfl) (Nat.le_of_ble_eq_true rfl)) ?_
    refine x_i2l hX dL_pickBatch_6 ?_
    refine x_last hX dL_pickBatch_7 h1 inc_0_1 ixc_0 ?_
    refine x_goto (tgt := 14) hX dL_pickBatch_8 (by decide) ?_
    refine x_iconst hX dL_pickBatch_14 ?_
    cases h
    exact x_iretX hX dL_pickBatch_15 (Nat.le_of_ble_eq_true rfl) (Nat.le_of_ble_eq_true rfl)
def hhL_pickedUnits : List (Nat × Nat × Nat × Nat) := [(0, 10, 13, 21)]
theorem kL_pickedUnits : MKh mL_pickedUnits hhL_pickedUnits 4 := ⟨ws_of 1552 (by decide +kernel) (by decide +kernel), w_149, by decide +kernel, Nat.le_of_ble_eq_true rfl, by decide +kernel, w_1551⟩
set_option maxRecDepth 100000 in
set_option maxHeartbeats 4000000 in
theorem c_L_pickedUnits {l : Launch} {G : Gx} (hG : GOK G) (hl : l.stackTraces = false) (hs : SOK G) {a3 : Nat} (h3 : at_ G a3 4 1) (x1 : Int) (x2 : Int) (M : Mem) (r : Int) (Mr : Mem) (h : f_L_pickedUnits a3 x1 x2 M = some (r, Mr)) : Cw l G mL_pickedUnits hhL_pickedUnits 5 2 12 [vr G 0, vi x1, vi x2, vr G a3] M (some (vi r)) Mr := by
  refine Cw_of (ls := [some (vr G 0), some (vi x1), some (vi x2), some (vr G a3), none]) hG hl kL_pickedUnits rfl (Nat.le_of_ble_eq_true rfl) rfl rfl rfl rfl rfl (fun X eG el hX hN => ?_)
  subst eG; subst el
  unfold f_L_pickedUnits at h
  refine x_aloadn hX dL_pickedUnits_0 rfl ?_
  refine x_iconst hX dL_pickedUnits_1 ?_
  refine x_aloadn hX dL_pickedUnits_2 rfl ?_
  refine x_iloadn hX dL_pickedUnits_3 rfl ?_
  refine x_iloadn hX dL_pickedUnits_4 rfl ?_
  rcases cx1_of h with ⟨e1, ee, h⟩ | ⟨r1, er, h⟩
  · by_cases q3 : e1 = 3
    · replace h := (if_pos q3).symm.trans h
      subst q3
      refine x_xVc (pre := []) (suf := []) (z := (0, 10, 13, 21)) (x := 3) (t := 10) (As := [vi x1, vi x2]) (rest := [vi 0, vr (xG X) a3]) hX hN rfl (fun q hq => by cases hq) (by decide) (by decide) w_1055 dL_pickedUnits_5 (c_X11_pickedUnits (gk hX) (gl hX) hs x1 x2 M _ ee) kX11_pickedUnits vX11_pickedUnits w_1553 (st0 hs) rfl rfl rfl rfl (Nat.le_of_ble_eq_true rfl) (Nat.le_of_ble_eq_true rfl) (Nat.le_of_ble_eq_true rfl) (fun q => ?_)
      refine x_astoreq (ls' := [some (vr (xG X) 0), some (vi x1), some (vi x2), some (vr (xG X) a3), some (.ref q)]) hX dL_pickedUnits_13 rfl rfl ?_
      refine x_iconst hX dL_pickedUnits_15 ?_
      cases h
      exact x_iretX hX dL_pickedUnits_16 (Nat.le_of_ble_eq_true rfl) (Nat.le_of_ble_eq_true rfl)
    · replace h := (if_neg q3).symm.trans h
      cases h
  · refine x_xVr (t := 10) (As := [vi x1, vi x2]) (rest := [vi 0, vr (xG X) a3]) hX dL_pickedUnits_5 (c_X11_pickedUnits (gk hX) (gl hX) hs x1 x2 M _ er) kX11_pickedUnits vX11_pickedUnits w_1553 (st0 hs) rfl rfl rfl rfl (Nat.le_of_ble_eq_true rfl) (kh hN (Nat.le_of_ble_eq_true rfl) (Nat.le_of_ble_eq_true rfl)) ?_
    refine x_i2l hX dL_pickedUnits_8 ?_
    refine x_last hX dL_pickedUnits_9 h3 inc_0_1 ixc_0 ?_
    refine x_goto (tgt := 17) hX dL_pickedUnits_10 (by decide) ?_
    refine x_iconst hX dL_pickedUnits_17 ?_
    cases h
    exact x_iretX hX dL_pickedUnits_18 (Nat.le_of_ble_eq_true rfl) (Nat.le_of_ble_eq_true rfl)
def hhL_shortUnits : List (Nat × Nat × Nat × Nat) := [(0, 10, 13, 21)]
theorem kL_shortUnits : MKh mL_shortUnits hhL_shortUnits 4 := ⟨ws_of 1564 (by decide +kernel) (by decide +kernel), w_149, by decide +kernel, Nat.le_of_ble_eq_true rfl, by decide +kernel, w_1563⟩
set_option maxRecDepth 100000 in
set_option maxHeartbeats 4000000 in
theorem c_L_shortUnits {l : Launch} {G : Gx} (hG : GOK G) (hl : l.stackTraces = false) (hs : SOK G) {a3 : Nat} (h3 : at_ G a3 4 1) (x1 : Int) (x2 : Int) (M : Mem) (r : Int) (Mr : Mem) (h : f_L_shortUnits a3 x1 x2 M = some (r, Mr)) : Cw l G mL_shortUnits hhL_shortUnits 5 2 12 [vr G 0, vi x1, vi x2, vr G a3] M (some (vi r)) Mr := by
  refine Cw_of (ls := [some (vr G 0), some (vi x1), some (vi x2), some (vr G a3), none]) hG hl kL_shortUnits rfl (Nat.le_of_ble_eq_true rfl) rfl rfl rfl rfl rfl (fun X eG el hX hN => ?_)
  subst eG; subst el
  unfold f_L_shortUnits at h
  refine x_aloadn hX dL_shortUnits_0 rfl ?_
  refine x_iconst hX dL_shortUnits_1 ?_
  refine x_aloadn hX dL_shortUnits_2 rfl ?_
  refine x_iloadn hX dL_shortUnits_3 rfl ?_
  refine x_iloadn hX dL_shortUnits_4 rfl ?_
  rcases cx1_of h with ⟨e1, ee, h⟩ | ⟨r1, er, h⟩
  · by_cases q3 : e1 = 3
    · replace h := (if_pos q3).symm.trans h
      subst q3
      refine x_xVc (pre := []) (suf := []) (z := (0, 10, 13, 21)) (x := 3) (t := 10) (As := [vi x1, vi x2]) (rest := [vi 0, vr (xG X) a3]) hX hN rfl (fun q hq => by cases hq) (by decide) (by decide) w_1055 dL_shortUnits_5 (c_X11_shortUnits (gk hX) (gl hX) hs x1 x2 M _ ee) kX11_shortUnits vX11_shortUnits w_1565 (st0 hs) rfl rfl rfl rfl (Nat.le_of_ble_eq_true rfl) (Nat.le_of_ble_eq_true rfl) (Nat.le_of_ble_eq_true rfl) (fun q => ?_)
      refine x_astoreq (ls' := [some (vr (xG X) 0), some (vi x1), some (vi x2), some (vr (xG X) a3), some (.ref q)]) hX dL_shortUnits_13 rfl rfl ?_
      refine x_iconst hX dL_shortUnits_15 ?_
      cases h
      exact x_iretX hX dL_shortUnits_16 (Nat.le_of_ble_eq_true rfl) (Nat.le_of_ble_eq_true rfl)
    · replace h := (if_neg q3).symm.trans h
      cases h
  · refine x_xVr (t := 10) (As := [vi x1, vi x2]) (rest := [vi 0, vr (xG X) a3]) hX dL_shortUnits_5 (c_X11_shortUnits (gk hX) (gl hX) hs x1 x2 M _ er) kX11_shortUnits vX11_shortUnits w_1565 (st0 hs) rfl rfl rfl rfl (Nat.le_of_ble_eq_true rfl) (kh hN (Nat.le_of_ble_eq_true rfl) (Nat.le_of_ble_eq_true rfl)) ?_
    refine x_i2l hX dL_shortUnits_8 ?_
    refine x_last hX dL_shortUnits_9 h3 inc_0_1 ixc_0 ?_
    refine x_goto (tgt := 17) hX dL_shortUnits_10 (by decide) ?_
    refine x_iconst hX dL_shortUnits_17 ?_
    cases h
    exact x_iretX hX dL_shortUnits_18 (Nat.le_of_ble_eq_true rfl) (Nat.le_of_ble_eq_true rfl)
def hhL_reorder : List (Nat × Nat × Nat × Nat) := [(0, 10, 13, 21), (0, 10, 17, 13), (0, 10, 21, 15)]
theorem kL_reorder : MKh mL_reorder hhL_reorder 4 := ⟨ws_of 1572 (by decide +kernel) (by decide +kernel), w_149, by decide +kernel, Nat.le_of_ble_eq_true rfl, by decide +kernel, w_1571⟩
set_option maxRecDepth 100000 in
set_option maxHeartbeats 4000000 in
theorem c_L_reorder {l : Launch} {G : Gx} (hG : GOK G) (hl : l.stackTraces = false) (hs : SOK G) {a3 : Nat} (h3 : at_ G a3 4 1) (x1 : Int) (x2 : Int) (M : Mem) (r : Int) (Mr : Mem) (h : f_L_reorder a3 x1 x2 M = some (r, Mr)) : Cw l G mL_reorder hhL_reorder 5 4 24 [vr G 0, vi x1, vi x2, vr G a3] M (some (vi r)) Mr := by
  refine Cw_of (ls := [some (vr G 0), some (vi x1), some (vi x2), some (vr G a3), none]) hG hl kL_reorder rfl (Nat.le_of_ble_eq_true rfl) rfl rfl rfl rfl rfl (fun X eG el hX hN => ?_)
  subst eG; subst el
  unfold f_L_reorder at h
  refine x_aloadn hX dL_reorder_0 rfl ?_
  refine x_iconst hX dL_reorder_1 ?_
  refine x_aloadn hX dL_reorder_2 rfl ?_
  refine x_iloadn hX dL_reorder_3 rfl ?_
  refine x_iloadn hX dL_reorder_4 rfl ?_
  rcases cx2_of h with ⟨e1, M1, ee, h⟩ | ⟨r1, M1, er, h⟩
  · by_cases q3 : e1 = 3
    · replace h := (if_pos q3).symm.trans h
      subst q3
      refine x_xVc (pre := []) (suf := [(0, 10, 17, 13), (0, 10, 21, 15)]) (z := (0, 10, 13, 21)) (x := 3) (t := 10) (As := [vi x1, vi x2]) (rest := [vi 0, vr (xG X) a3]) hX hN rfl (fun q hq => by cases hq) (by decide) (by decide) w_1055 dL_reorder_5 (c_X11_reorder (gk hX) (gl hX) hs x1 x2 M _ _ ee) kX11_reorder vX11_reorder w_1573 (st0 hs) rfl rfl rfl rfl (Nat.le_of_ble_eq_true rfl) (Nat.le_of_ble_eq_true rfl) (Nat.le_of_ble_eq_true rfl) (fun q => ?_)
      refine x_astoreq (ls' := [some (vr (xG X) 0), some (vi x1), some (vi x2), some (vr (xG X) a3), some (.ref q)]) hX dL_reorder_13 rfl rfl ?_
      refine x_iconst hX dL_reorder_15 ?_
      cases h
      exact x_iretX hX dL_reorder_16 (Nat.le_of_ble_eq_true rfl) (Nat.le_of_ble_eq_true rfl)
    · replace h := (if_neg q3).symm.trans h
      by_cases q2 : e1 = 2
      · replace h := (if_pos q2).symm.trans h
        subst q2
        refine x_xVc (pre := [(0, 10, 13, 21)]) (suf := [(0, 10, 21, 15)]) (z := (0, 10, 17, 13)) (x := 2) (t := 10) (As := [vi x1, vi x2]) (rest := [vi 0, vr (xG X) a3]) hX hN rfl (List.forall_mem_cons.mpr ⟨⟨by decide, "java/lang/IndexOutOfBoundsException", by decide +kernel, by decide +kernel, w_1055⟩, fun q hq => by cases hq⟩) (by decide) (by decide) w_959 dL_reorder_5 (c_X11_reorder (gk hX) (gl hX) hs x1 x2 M _ _ ee) kX11_reorder vX11_reorder w_1573 (st0 hs) rfl rfl rfl rfl (Nat.le_of_ble_eq_true rfl) (Nat.le_of_ble_eq_true rfl) (Nat.le_of_ble_eq_true rfl) (fun q => ?_)
        refine x_astoreq (ls' := [some (vr (xG X) 0), some (vi x1), some (vi x2), some (vr (xG X) a3), some (.ref q)]) hX dL_reorder_17 rfl rfl ?_
        refine x_iconst hX dL_reorder_19 ?_
        cases h
        exact x_iretX hX dL_reorder_20 (Nat.le_of_ble_eq_true rfl) (Nat.le_of_ble_eq_true rfl)
      · replace h := (if_neg q2).symm.trans h
        by_cases q1 : e1 = 1
        · replace h := (if_pos q1).symm.trans h
          subst q1
          refine x_xVc (pre := [(0, 10, 13, 21), (0, 10, 17, 13)]) (suf := []) (z := (0, 10, 21, 15)) (x := 1) (t := 10) (As := [vi x1, vi x2]) (rest := [vi 0, vr (xG X) a3]) hX hN rfl (List.forall_mem_cons.mpr ⟨⟨by decide, "java/lang/IndexOutOfBoundsException", by decide +kernel, by decide +kernel, w_1055⟩, List.forall_mem_cons.mpr ⟨⟨by decide, "java/lang/IllegalArgumentException", by decide +kernel, by decide +kernel, w_959⟩, fun q hq => by cases hq⟩⟩) (by decide) (by decide) w_960 dL_reorder_5 (c_X11_reorder (gk hX) (gl hX) hs x1 x2 M _ _ ee) kX11_reorder vX11_reorder w_1573 (st0 hs) rfl rfl rfl rfl (Nat.le_of_ble_eq_true rfl) (Nat.le_of_ble_eq_true rfl) (Nat.le_of_ble_eq_true rfl) (fun q => ?_)
          refine x_astoreq (ls' := [some (vr (xG X) 0), some (vi x1), some (vi x2), some (vr (xG X) a3), some (.ref q)]) hX dL_reorder_21 rfl rfl ?_
          refine x_iconst hX dL_reorder_23 ?_
          cases h
          exact x_iretX hX dL_reorder_24 (Nat.le_of_ble_eq_true rfl) (Nat.le_of_ble_eq_true rfl)
        · replace h := (if_neg q1).symm.trans h
          cases h
  · refine x_xVr (t := 10) (As := [vi x1, vi x2]) (rest := [vi 0, vr (xG X) a3]) hX dL_reorder_5 (c_X11_reorder (gk hX) (gl hX) hs x1 x2 M _ _ er) kX11_reorder vX11_reorder w_1573 (st0 hs) rfl rfl rfl rfl (Nat.le_of_ble_eq_true rfl) (kh hN (Nat.le_of_ble_eq_true rfl) (Nat.le_of_ble_eq_true rfl)) ?_
    refine x_i2l hX dL_reorder_8 ?_
    refine x_last hX dL_reorder_9 h3 inc_0_1 ixc_0 ?_
    refine x_goto (tgt := 25) hX dL_reorder_10 (by decide) ?_
    refine x_iconst hX dL_reorder_25 ?_
    cases h
    exact x_iretX hX dL_reorder_26 (Nat.le_of_ble_eq_true rfl) (Nat.le_of_ble_eq_true rfl)
def hhL_appendText : List (Nat × Nat × Nat × Nat) := [(0, 9, 12, 15)]
theorem kL_appendText : MKh mL_appendText hhL_appendText 3 := ⟨ws_of 1590 (by decide +kernel) (by decide +kernel), w_149, by decide +kernel, Nat.le_of_ble_eq_true rfl, by decide +kernel, w_1589⟩
set_option maxRecDepth 100000 in
set_option maxHeartbeats 4000000 in
theorem c_L_appendText {l : Launch} {G : Gx} (hG : GOK G) (hl : l.stackTraces = false) (hs : SOK G) {a2 : Nat} (h2 : at_ G a2 4 1) (x1 : Int) (M : Mem) (r : Int) (Mr : Mem) (h : f_L_appendText a2 x1 M = some (r, Mr)) : Cw l G mL_appendText hhL_appendText 3 1 6 [vr G 0, vi x1, vr G a2] M (some (vi r)) Mr := by
  refine Cw_of (ls := [some (vr G 0), some (vi x1), some (vr G a2), none]) hG hl kL_appendText rfl (Nat.le_of_ble_eq_true rfl) rfl rfl rfl rfl rfl (fun X eG el hX hN => ?_)
  subst eG; subst el
  unfold f_L_appendText at h
  refine x_aloadn hX dL_appendText_0 rfl ?_
  refine x_iconst hX dL_appendText_1 ?_
  refine x_aloadn hX dL_appendText_2 rfl ?_
  refine x_iloadn hX dL_appendText_3 rfl ?_
  rcases cx2_of h with ⟨e1, M1, ee, h⟩ | ⟨r1, M1, er, h⟩
  · by_cases q1 : e1 = 1
    · replace h := (if_pos q1).symm.trans h
      subst q1
      refine x_xVc (pre := []) (suf := []) (z := (0, 9, 12, 15)) (x := 1) (t := 10) (As := [vi x1]) (rest := [vi 0, vr (xG X) a2]) hX hN rfl (fun q hq => by cases hq) (by decide) (by decide) w_960 dL_appendText_4 (c_X11_appendText (gk hX) (gl hX) hs x1 M _ _ ee) kX11_appendText vX11_appendText w_1591 (st0 hs) rfl rfl rfl rfl (Nat.le_of_ble_eq_true rfl) (Nat.le_of_ble_eq_true rfl) (Nat.le_of_ble_eq_true rfl) (fun q => ?_)
      refine x_astoreqn (ls' := [some (vr (xG X) 0), some (vi x1), some (vr (xG X) a2), some (.ref q)]) hX dL_appendText_12 rfl rfl ?_
      refine x_iconst hX dL_appendText_13 ?_
      cases h
      exact x_iretX hX dL_appendText_14 (Nat.le_of_ble_eq_true rfl) (Nat.le_of_ble_eq_true rfl)
    · replace h := (if_neg q1).symm.trans h
      cases h
  · refine x_xVr (t := 10) (As := [vi x1]) (rest := [vi 0, vr (xG X) a2]) hX dL_appendText_4 (c_X11_appendText (gk hX) (gl hX) hs x1 M _ _ er) kX11_appendText vX11_appendText w_1591 (st0 hs) rfl rfl rfl rfl (Nat.le_of_ble_eq_true rfl) (kh hN (Nat.le_of_ble_eq_true rfl) (Nat.le_of_ble_eq_true rfl)) ?_
    refine x_i2l hX dL_appendText_7 ?_
    refine x_last hX dL_appendText_8 h2 inc_0_1 ixc_0 ?_
    refine x_goto (tgt := 15) hX dL_appendText_9 (by decide) ?_
    refine x_iconst hX dL_appendText_15 ?_
    cases h
    exact x_iretX hX dL_appendText_16 (Nat.le_of_ble_eq_true rfl) (Nat.le_of_ble_eq_true rfl)
def hhL_truncateText : List (Nat × Nat × Nat × Nat) := [(0, 9, 12, 13)]
theorem kL_truncateText : MKh mL_truncateText hhL_truncateText 3 := ⟨ws_of 1602 (by decide +kernel) (by decide +kernel), w_149, by decide +kernel, Nat.le_of_ble_eq_true rfl, by decide +kernel, w_1601⟩
set_option maxRecDepth 100000 in
set_option maxHeartbeats 4000000 in
theorem c_L_truncateText {l : Launch} {G : Gx} (hG : GOK G) (hl : l.stackTraces = false) (hs : SOK G) {a2 : Nat} (h2 : at_ G a2 4 1) (x1 : Int) (M : Mem) (r : Int) (Mr : Mem) (h : f_L_truncateText a2 x1 M = some (r, Mr)) : Cw l G mL_truncateText hhL_truncateText 3 1 6 [vr G 0, vi x1, vr G a2] M (some (vi r)) Mr := by
  refine Cw_of (ls := [some (vr G 0), some (vi x1), some (vr G a2), none]) hG hl kL_truncateText rfl (Nat.le_of_ble_eq_true rfl) rfl rfl rfl rfl rfl (fun X eG el hX hN => ?_)
  subst eG; subst el
  unfold f_L_truncateText at h
  refine x_aloadn hX dL_truncateText_0 rfl ?_
  refine x_iconst hX dL_truncateText_1 ?_
  refine x_aloadn hX dL_truncateText_2 rfl ?_
  refine x_iloadn hX dL_truncateText_3 rfl ?_
  rcases cx2_of h with ⟨e1, M1, ee, h⟩ | ⟨r1, M1, er, h⟩
  · by_cases q2 : e1 = 2
    · replace h := (if_pos q2).symm.trans h
      subst q2
      refine x_xVc (pre := []) (suf := []) (z := (0, 9, 12, 13)) (x := 2) (t := 10) (As := [vi x1]) (rest := [vi 0, vr (xG X) a2]) hX hN rfl (fun q hq => by cases hq) (by decide) (by decide) w_959 dL_truncateText_4 (c_X11_truncateText (gk hX) (gl hX) hs x1 M _ _ ee) kX11_truncateText vX11_truncateText w_1603 (st0 hs) rfl rfl rfl rfl (Nat.le_of_ble_eq_true rfl) (Nat.le_of_ble_eq_true rfl) (Nat.le_of_ble_eq_true rfl) (fun q => ?_)
      refine x_astoreqn (ls' := [some (vr (xG X) 0), some (vi x1), some (vr (xG X) a2), some (.ref q)]) hX dL_truncateText_12 rfl rfl ?_
      refine x_iconst hX dL_truncateText_13 ?_
      cases h
      exact x_iretX hX dL_truncateText_14 (Nat.le_of_ble_eq_true rfl) (Nat.le_of_ble_eq_true rfl)
    · replace h := (if_neg q2).symm.trans h
      cases h
  · refine x_xVr (t := 10) (As := [vi x1]) (rest := [vi 0, vr (xG X) a2]) hX dL_truncateText_4 (c_X11_truncateText (gk hX) (gl hX) hs x1 M _ _ er) kX11_truncateText vX11_truncateText w_1603 (st0 hs) rfl rfl rfl rfl (Nat.le_of_ble_eq_true rfl) (kh hN (Nat.le_of_ble_eq_true rfl) (Nat.le_of_ble_eq_true rfl)) ?_
    refine x_i2l hX dL_truncateText_7 ?_
    refine x_last hX dL_truncateText_8 h2 inc_0_1 ixc_0 ?_
    refine x_goto (tgt := 15) hX dL_truncateText_9 (by decide) ?_
    refine x_iconst hX dL_truncateText_15 ?_
    cases h
    exact x_iretX hX dL_truncateText_16 (Nat.le_of_ble_eq_true rfl) (Nat.le_of_ble_eq_true rfl)
def hhL_restore : List (Nat × Nat × Nat × Nat) := [(0, 5, 8, 13), (0, 5, 11, 15)]
theorem kL_restore : MKh mL_restore hhL_restore 2 := ⟨ws_of 1616 (by decide +kernel) (by decide +kernel), w_149, by decide +kernel, Nat.le_of_ble_eq_true rfl, by decide +kernel, w_1615⟩
set_option maxRecDepth 100000 in
set_option maxHeartbeats 4000000 in
theorem c_L_restore {l : Launch} {G : Gx} (hG : GOK G) (hl : l.stackTraces = false) (hs : SOK G) (x1 : Int) (M : Mem) (hsv : ∀ j : Nat, j < 2 → ¬ M 37 j = 0 → at_ G (160 + 18 * j) 11 0) (r : Int) (Mr : Mem) (h : f_L_restore x1 M = some (r, Mr)) : Cw l G mL_restore hhL_restore 4 2 12 [vr G 0, vi x1] M (some (vi r)) Mr := by
  refine Cw_of (ls := [some (vr G 0), some (vi x1), none]) hG hl kL_restore rfl (Nat.le_of_ble_eq_true rfl) rfl rfl rfl rfl rfl (fun X eG el hX hN => ?_)
  subst eG; subst el
  unfold f_L_restore at h
  refine x_aloadn hX dL_restore_0 rfl ?_
  refine x_iloadn hX dL_restore_1 rfl ?_
  rcases cx2_of h with ⟨e1, M1, ee, h⟩ | ⟨r1, M1, er, h⟩
  · by_cases q2 : e1 = 2
    · replace h := (if_pos q2).symm.trans h
      subst q2
      refine x_xVc (pre := []) (suf := [(0, 5, 11, 15)]) (z := (0, 5, 8, 13)) (x := 2) (t := 10) (As := [vi x1]) (rest := []) hX hN rfl (fun q hq => by cases hq) (by decide) (by decide) w_959 dL_restore_2 (c_X11_restore (gk hX) (gl hX) hs x1 M hsv _ _ ee) kX11_restore vX11_restore w_1617 (st0 hs) rfl rfl rfl rfl (Nat.le_of_ble_eq_true rfl) (Nat.le_of_ble_eq_true rfl) (Nat.le_of_ble_eq_true rfl) (fun q => ?_)
      refine x_astoreqn (ls' := [some (vr (xG X) 0), some (vi x1), some (.ref q)]) hX dL_restore_8 rfl rfl ?_
      refine x_iconst hX dL_restore_9 ?_
      cases h
      exact x_iretX hX dL_restore_10 (Nat.le_of_ble_eq_true rfl) (Nat.le_of_ble_eq_true rfl)
    · replace h := (if_neg q2).symm.trans h
      by_cases q1 : e1 = 1
      · replace h := (if_pos q1).symm.trans h
        subst q1
        refine x_xVc (pre := [(0, 5, 8, 13)]) (suf := []) (z := (0, 5, 11, 15)) (x := 1) (t := 10) (As := [vi x1]) (rest := []) hX hN rfl (List.forall_mem_cons.mpr ⟨⟨by decide, "java/lang/IllegalArgumentException", by decide +kernel, by decide +kernel, w_959⟩, fun q hq => by cases hq⟩) (by decide) (by decide) w_960 dL_restore_2 (c_X11_restore (gk hX) (gl hX) hs x1 M hsv _ _ ee) kX11_restore vX11_restore w_1617 (st0 hs) rfl rfl rfl rfl (Nat.le_of_ble_eq_true rfl) (Nat.le_of_ble_eq_true rfl) (Nat.le_of_ble_eq_true rfl) (fun q => ?_)
        refine x_astoreqn (ls' := [some (vr (xG X) 0), some (vi x1), some (.ref q)]) hX dL_restore_11 rfl rfl ?_
        refine x_iconst hX dL_restore_12 ?_
        cases h
        exact x_iretX hX dL_restore_13 (Nat.le_of_ble_eq_true rfl) (Nat.le_of_ble_eq_true rfl)
      · replace h := (if_neg q1).symm.trans h
        cases h
  · refine x_xVr (t := 10) (As := [vi x1]) (rest := []) hX dL_restore_2 (c_X11_restore (gk hX) (gl hX) hs x1 M hsv _ _ er) kX11_restore vX11_restore w_1617 (st0 hs) rfl rfl rfl rfl (Nat.le_of_ble_eq_true rfl) (kh hN (Nat.le_of_ble_eq_true rfl) (Nat.le_of_ble_eq_true rfl)) ?_
    refine x_goto (tgt := 14) hX dL_restore_5 (by decide) ?_
    refine x_iconst hX dL_restore_14 ?_
    cases h
    exact x_iretX hX dL_restore_15 (Nat.le_of_ble_eq_true rfl) (Nat.le_of_ble_eq_true rfl)
