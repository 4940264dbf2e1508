-- written by wip/gen/emit.py: X11_aisleCount, X11_itemCount, X11_orderCount, X11_batchCount, X11_errorCode, X11_errorPosition, X11_needArgument, X11_needIndex, X11_needUnfinished, X11_needRoomForOrder, X11_commonDivisor, X0_append, X0_drop, X0_batchWith, X0_copyFrom, X1_weightOf, X1_aislesOf, X1_itemsOfAll, X1_canBeBatched, X1_earliestDue, X1_tardinessOf, X1_serve, X2_append
set_option maxRecDepth 100000 in
set_option maxHeartbeats 4000000 in
theorem c_X11_aisleCount {l : Launch} {G : Gx} (hG : GOK G) (hl : l.stackTraces = false) (hs : SOK G)  (M : Mem) (r : Int) (h : f_X11_aisleCount M = some r) : Cn l G mX11_aisleCount 1 [vr G 0] M (some (vi r)) M := by
  refine Cn_of2 (ls := [some (vr G 0)]) hG hl kX11_aisleCount rfl (Nat.le_of_ble_eq_true rfl) rfl rfl rfl rfl rfl (fun X eG el hX => ?_)
  subst eG; subst el
  unfold f_X11_aisleCount at h
  refine x_aloadn hX dX11_aisleCount_0 rfl ?_
  refine x_getRj (j := 1) hX dX11_aisleCount_1 fl_X11_10 rfl (st0 hs) rfl ?_
  refine x_getRj (j := 2) hX dX11_aisleCount_4 fl_X11_79 rfl (st1 hs) rfl ?_
  refine x_getI hX dX11_aisleCount_7 fl_X11_88 rfl (st2 hs) ?_
  cases h
  exact x_iret hX dX11_aisleCount_10 rfl
set_option maxRecDepth 100000 in
set_option maxHeartbeats 4000000 in
theorem c_X11_itemCount {l : Launch} {G : Gx} (hG : GOK G) (hl : l.stackTraces = false) (hs : SOK G)  (M : Mem) (r : Int) (h : f_X11_itemCount M = some r) : Cn l G mX11_itemCount 1 [vr G 0] M (some (vi r)) M := by
  refine Cn_of2 (ls := [some (vr G 0)]) hG hl kX11_itemCount rfl (Nat.le_of_ble_eq_true rfl) rfl rfl rfl rfl rfl (fun X eG el hX => ?_)
  subst eG; subst el
  unfold f_X11_itemCount at h
  refine x_aloadn hX dX11_itemCount_0 rfl ?_
  refine x_getRj (j := 1) hX dX11_itemCount_1 fl_X11_10 rfl (st0 hs) rfl ?_
  refine x_getRj (j := 5) hX dX11_itemCount_4 fl_X11_62 rfl (st1 hs) rfl ?_
  refine x_getI hX dX11_itemCount_7 fl_X11_66 rfl (st5 hs) ?_
  cases h
  exact x_iret hX dX11_itemCount_10 rfl
set_option maxRecDepth 100000 in
set_option maxHeartbeats 4000000 in
theorem c_X11_orderCount {l : Launch} {G : Gx} (hG : GOK G) (hl : l.stackTraces = false) (hs : SOK G)  (M : Mem) (r : Int) (h : f_X11_orderCount M = some r) : Cn l G mX11_orderCount 1 [vr G 0] M (some (vi r)) M := by
  refine Cn_of2 (ls := [some (vr G 0)]) hG hl kX11_orderCount rfl (Nat.le_of_ble_eq_true rfl) rfl rfl rfl rfl rfl (fun X eG el hX => ?_)
  subst eG; subst el
  unfold f_X11_orderCount at h
  refine x_aloadn hX dX11_orderCount_0 rfl ?_
  refine x_getRj (j := 1) hX dX11_orderCount_1 fl_X11_10 rfl (st0 hs) rfl ?_
  refine x_getRj (j := 10) hX dX11_orderCount_4 fl_X11_118 rfl (st1 hs) rfl ?_
  refine x_getI hX dX11_orderCount_7 fl_X11_146 rfl (st10 hs) ?_
  cases h
  exact x_iret hX dX11_orderCount_10 rfl
set_option maxRecDepth 100000 in
set_option maxHeartbeats 4000000 in
theorem c_X11_batchCount {l : Launch} {G : Gx} (hG : GOK G) (hl : l.stackTraces = false) (hs : SOK G)  (M : Mem) (r : Int) (h : f_X11_batchCount M = some r) : Cn l G mX11_batchCount 1 [vr G 0] M (some (vi r)) M := by
  refine Cn_of2 (ls := [some (vr G 0)]) hG hl kX11_batchCount rfl (Nat.le_of_ble_eq_true rfl) rfl rfl rfl rfl rfl (fun X eG el hX => ?_)
  subst eG; subst el
  unfold f_X11_batchCount at h
  refine x_aloadn hX dX11_batchCount_0 rfl ?_
  refine x_getRj (j := 1) hX dX11_batchCount_1 fl_X11_10 rfl (st0 hs) rfl ?_
  refine x_getRj (j := 17) hX dX11_batchCount_4 fl_X11_159 rfl (st1 hs) rfl ?_
  refine x_getI hX dX11_batchCount_7 fl_X11_168 rfl (st17 hs) ?_
  cases h
  exact x_iret hX dX11_batchCount_10 rfl
set_option maxRecDepth 100000 in
set_option maxHeartbeats 4000000 in
theorem c_X11_errorCode {l : Launch} {G : Gx} (hG : GOK G) (hl : l.stackTraces = false) (hs : SOK G)  (M : Mem) (r : Int) (h : f_X11_errorCode M = some r) : Cn l G mX11_errorCode 1 [vr G 0] M (some (vi r)) M := by
  refine Cn_of2 (ls := [some (vr G 0)]) hG hl kX11_errorCode rfl (Nat.le_of_ble_eq_true rfl) rfl rfl rfl rfl rfl (fun X eG el hX => ?_)
  subst eG; subst el
  unfold f_X11_errorCode at h
  refine x_aloadn hX dX11_errorCode_0 rfl ?_
  refine x_getRj (j := 38) hX dX11_errorCode_1 fl_X11_26 rfl (st0 hs) rfl ?_
  refine x_getI hX dX11_errorCode_4 fl_X11_345 rfl (st38 hs) ?_
  cases h
  exact x_iret hX dX11_errorCode_7 rfl
set_option maxRecDepth 100000 in
set_option maxHeartbeats 4000000 in
theorem c_X11_errorPosition {l : Launch} {G : Gx} (hG : GOK G) (hl : l.stackTraces = false) (hs : SOK G)  (M : Mem) (r : Int) (h : f_X11_errorPosition M = some r) : Cn l G mX11_errorPosition 1 [vr G 0] M (some (vi r)) M := by
  refine Cn_of2 (ls := [some (vr G 0)]) hG hl kX11_errorPosition rfl (Nat.le_of_ble_eq_true rfl) rfl rfl rfl rfl rfl (fun X eG el hX => ?_)
  subst eG; subst el
  unfold f_X11_errorPosition at h
  refine x_aloadn hX dX11_errorPosition_0 rfl ?_
  refine x_getRj (j := 38) hX dX11_errorPosition_1 fl_X11_26 rfl (st0 hs) rfl ?_
  refine x_getI hX dX11_errorPosition_4 fl_X11_348 rfl (st38 hs) ?_
  cases h
  exact x_iret hX dX11_errorPosition_7 rfl
set_option maxRecDepth 100000 in
set_option maxHeartbeats 4000000 in
theorem tj_X11_needArgument_10 {X : Cxt} (hX : Gd X RX11 cX11_needArgument 3 (none) 1) (hN : NX X 1 6)   (M : Mem) (r : Nat ⊕ Unit) (h : j_X11_needArgument_10 M = some r) : V X 0 0 (Qx X 1 6 (ovu r) M) 10 [none, none, none] [] M := by
  unfold j_X11_needArgument_10 at h
  cases h
  exact x_thrW (x := 2) (k' := 12) hX hN dX11_needArgument_10 dX11_needArgument_13 dX11_needArgument_14 dX11_needArgument_17 dX11_needArgument_20 thr_178_182 rfl (Nat.le_of_ble_eq_true rfl) (Nat.le_of_ble_eq_true rfl) (Nat.le_of_ble_eq_true rfl)
set_option maxRecDepth 100000 in
set_option maxHeartbeats 4000000 in
theorem c_X11_needArgument {l : Launch} {G : Gx} (hG : GOK G) (hl : l.stackTraces = false)  (x0 : Int) (x1 : Int) (x2 : Int) (M : Mem) (r : Nat ⊕ Unit) (h : f_X11_needArgument x0 x1 x2 M = some r) : Cx l G mX11_needArgument 1 1 6 [vi x0, vi x1, vi x2] M (ovu r) M := by
  refine Cx_of2 (ls := [some (vi x0), some (vi x1), some (vi x2)]) hG hl kX11_needArgument rfl (Nat.le_of_ble_eq_true rfl) rfl rfl rfl rfl rfl (fun X eG el hX hN => ?_)
  subst eG; subst el
  unfold f_X11_needArgument at h
  refine x_iloadn hX dX11_needArgument_0 rfl ?_
  refine x_iloadn hX dX11_needArgument_1 rfl ?_
  refine x_icmp_lt (tgt := 10) hX dX11_needArgument_2 (by decide) rfl rfl (fun hc => ?_) (fun hc => ?_)
  · replace h := (if_pos hc).symm.trans h
    exact x_weak [false, false, false] rfl (tj_X11_needArgument_10 hX hN M r h)
  · replace h := (if_neg hc).symm.trans h
    refine x_iloadn hX dX11_needArgument_5 rfl ?_
    refine x_iloadn hX dX11_needArgument_6 rfl ?_
    refine x_icmp_le (tgt := 21) hX dX11_needArgument_7 (by decide) rfl rfl (fun hc => ?_) (fun hc => ?_)
    · replace h := (if_pos hc).symm.trans h
      exact x_weak [false, false, false] rfl (tj_X11_needArgument_10 hX hN M r h)
    · replace h := (if_neg hc).symm.trans h
      cases h
      exact x_vretX hX dX11_needArgument_21 (Nat.le_of_ble_eq_true rfl) (Nat.le_of_ble_eq_true rfl)
set_option maxRecDepth 100000 in
set_option maxHeartbeats 4000000 in
theorem tj_X11_needIndex_9 {X : Cxt} (hX : Gd X RX11 cX11_needIndex 2 (none) 1) (hN : NX X 1 6)   (M : Mem) (r : Nat ⊕ Unit) (h : j_X11_needIndex_9 M = some r) : V X 0 0 (Qx X 1 6 (ovu r) M) 9 [none, none] [] M := by
  unfold j_X11_needIndex_9 at h
  cases h
  exact x_thrW (x := 3) (k' := 14) hX hN dX11_needIndex_9 dX11_needIndex_12 dX11_needIndex_13 dX11_needIndex_16 dX11_needIndex_19 thr_355_359 rfl (Nat.le_of_ble_eq_true rfl) (Nat.le_of_ble_eq_true rfl) (Nat.le_of_ble_eq_true rfl)
set_option maxRecDepth 100000 in
set_option maxHeartbeats 4000000 in
theorem c_X11_needIndex {l : Launch} {G : Gx} (hG : GOK G) (hl : l.stackTraces = false)  (x0 : Int) (x1 : Int) (M : Mem) (r : Nat ⊕ Unit) (h : f_X11_needIndex x0 x1 M = some r) : Cx l G mX11_needIndex 1 1 6 [vi x0, vi x1] M (ovu r) M := by
  refine Cx_of2 (ls := [some (vi x0), some (vi x1)]) hG hl kX11_needIndex rfl (Nat.le_of_ble_eq_true rfl) rfl rfl rfl rfl rfl (fun X eG el hX hN => ?_)
  subst eG; subst el
  unfold f_X11_needIndex at h
  refine x_iloadn hX dX11_needIndex_0 rfl ?_
  refine x_if_lt (tgt := 9) hX dX11_needIndex_1 (by decide) rfl (fun hc => ?_) (fun hc => ?_)
  · replace h := (if_pos hc).symm.trans h
    exact x_weak [false, false] rfl (tj_X11_needIndex_9 hX hN M r h)
  · replace h := (if_neg hc).symm.trans h
    refine x_iloadn hX dX11_needIndex_4 rfl ?_
    refine x_iloadn hX dX11_needIndex_5 rfl ?_
    refine x_icmp_lt (tgt := 20) hX dX11_needIndex_6 (by decide) rfl rfl (fun hc => ?_) (fun hc => ?_)
    · replace h := (if_pos hc).symm.trans h
      cases h
      exact x_vretX hX dX11_needIndex_20 (Nat.le_of_ble_eq_true rfl) (Nat.le_of_ble_eq_true rfl)
    · replace h := (if_neg hc).symm.trans h
      exact x_weak [false, false] rfl (tj_X11_needIndex_9 hX hN M r h)
set_option maxRecDepth 100000 in
set_option maxHeartbeats 4000000 in
theorem tj_X11_needUnfinished_32 {X : Cxt} (hX : Gd X RX11 cX11_needUnfinished 2 (none) 1) (hN : NX X 1 6) (hs : SOK (xG X))   (M : Mem) (r : Nat ⊕ Unit) (h : j_X11_needUnfinished_32 M = some r) : V X 0 0 (Qx X 1 6 (ovu r) M) 32 [none, none] [] M := by
  unfold j_X11_needUnfinished_32 at h
  cases h
  exact x_thrW (x := 1) (k' := 18) hX hN dX11_needUnfinished_32 dX11_needUnfinished_35 dX11_needUnfinished_36 dX11_needUnfinished_39 dX11_needUnfinished_42 thr_72_76 rfl (Nat.le_of_ble_eq_true rfl) (Nat.le_of_ble_eq_true rfl) (Nat.le_of_ble_eq_true rfl)
set_option maxRecDepth 100000 in
set_option maxHeartbeats 4000000 in
theorem c_X11_needUnfinished {l : Launch} {G : Gx} (hG : GOK G) (hl : l.stackTraces = false) (hs : SOK G)  (x1 : Int) (M : Mem) (r : Nat ⊕ Unit) (h : f_X11_needUnfinished x1 M = some r) : Cx l G mX11_needUnfinished 1 1 6 [vr G 0, vi x1] M (ovu r) M := by
  refine Cx_of2 (ls := [some (vr G 0), some (vi x1)]) hG hl kX11_needUnfinished rfl (Nat.le_of_ble_eq_true rfl) rfl rfl rfl rfl rfl (fun X eG el hX hN => ?_)
  subst eG; subst el
  unfold f_X11_needUnfinished at h
  refine x_aloadn hX dX11_needUnfinished_0 rfl ?_
  refine x_getRj (j := 1) hX dX11_needUnfinished_1 fl_X11_10 rfl (st0 hs) rfl ?_
  refine x_getRj (j := 10) hX dX11_needUnfinished_4 fl_X11_118 rfl (st1 hs) rfl ?_
  refine x_getRj (j := 12) hX dX11_needUnfinished_7 fl_X11_130 rfl (st10 hs) rfl ?_
  refine x_iloadn hX dX11_needUnfinished_10 rfl ?_
  obtain ⟨b_1, h⟩ := gi_of h
  refine x_iald hX dX11_needUnfinished_11 (st12 hs) b_1 rfl ?_
  refine x_iconst hX dX11_needUnfinished_12 ?_
  refine x_icmp_eq (tgt := 32) hX dX11_needUnfinished_13 (by decide) rfl cw_2 (fun hc => ?_) (fun hc => ?_)
  · replace h := (if_pos hc).symm.trans h
    exact x_weak [false, false] rfl (tj_X11_needUnfinished_32 hX hN hs M r h)
  · replace h := (if_neg hc).symm.trans h
    refine x_aloadn hX dX11_needUnfinished_16 rfl ?_
    refine x_getRj (j := 1) hX dX11_needUnfinished_17 fl_X11_10 rfl (st0 hs) rfl ?_
    refine x_getRj (j := 10) hX dX11_needUnfinished_20 fl_X11_118 rfl (st1 hs) rfl ?_
    refine x_getRj (j := 12) hX dX11_needUnfinished_23 fl_X11_130 rfl (st10 hs) rfl ?_
    refine x_iloadn hX dX11_needUnfinished_26 rfl ?_
    obtain ⟨b_2, h⟩ := gi_of h
    refine x_iald hX dX11_needUnfinished_27 (st12 hs) b_2 rfl ?_
    refine x_iconst hX dX11_needUnfinished_28 ?_
    refine x_icmp_ne (tgt := 43) hX dX11_needUnfinished_29 (by decide) rfl cw_3 (fun hc => ?_) (fun hc => ?_)
    · replace h := (if_pos hc).symm.trans h
      exact x_weak [false, false] rfl (tj_X11_needUnfinished_32 hX hN hs M r h)
    · replace h := (if_neg hc).symm.trans h
      cases h
      exact x_vretX hX dX11_needUnfinished_43 (Nat.le_of_ble_eq_true rfl) (Nat.le_of_ble_eq_true rfl)
set_option maxRecDepth 100000 in
set_option maxHeartbeats 4000000 in
theorem c_X11_needRoomForOrder {l : Launch} {G : Gx} (hG : GOK G) (hl : l.stackTraces = false) (hs : SOK G)  (M : Mem) (r : Nat ⊕ Unit) (h : f_X11_needRoomForOrder M = some r) : Cx l G mX11_needRoomForOrder 1 1 6 [vr G 0] M (ovu r) M := by
  refine Cx_of2 (ls := [some (vr G 0)]) hG hl kX11_needRoomForOrder rfl (Nat.le_of_ble_eq_true rfl) rfl rfl rfl rfl rfl (fun X eG el hX hN => ?_)
  subst eG; subst el
  unfold f_X11_needRoomForOrder at h
  refine x_aloadn hX dX11_needRoomForOrder_0 rfl ?_
  refine x_getRj (j := 1) hX dX11_needRoomForOrder_1 fl_X11_10 rfl (st0 hs) rfl ?_
  refine x_getRj (j := 10) hX dX11_needRoomForOrder_4 fl_X11_118 rfl (st1 hs) rfl ?_
  refine x_getI hX dX11_needRoomForOrder_7 fl_X11_146 rfl (st10 hs) ?_
  refine x_bipush hX dX11_needRoomForOrder_10 bp_16 ?_
  refine x_icmp_lt (tgt := 26) hX dX11_needRoomForOrder_12 (by decide) rfl cw_16 (fun hc => ?_) (fun hc => ?_)
  · replace h := (if_pos hc).symm.trans h
    cases h
    exact x_vretX hX dX11_needRoomForOrder_26 (Nat.le_of_ble_eq_true rfl) (Nat.le_of_ble_eq_true rfl)
  · replace h := (if_neg hc).symm.trans h
    cases h
    exact x_thrW (x := 1) (k' := 16) hX hN dX11_needRoomForOrder_15 dX11_needRoomForOrder_18 dX11_needRoomForOrder_19 dX11_needRoomForOrder_22 dX11_needRoomForOrder_25 thr_72_76 rfl (Nat.le_of_ble_eq_true rfl) (Nat.le_of_ble_eq_true rfl) (Nat.le_of_ble_eq_true rfl)
set_option maxRecDepth 100000 in
set_option maxHeartbeats 4000000 in
theorem ts_X11_commonDivisor_7 {X : Cxt} (hX : Gd X RX11 cX11_commonDivisor 6 (some .int) 1)  (M : Mem) (x2 : Int) (x3 : Int) (x4 : Int) {Q : State → Prop} (o : (Int × Int × Int) ⊕ ((Int) ⊕ (Int))) (h : s_X11_commonDivisor_7 M x2 x3 x4 = some o) (hP : ∀ y, o = .inl y → V X 0 0 Q 7 [none, none, some (vi y.1), some (vi y.2.1), some (vi y.2.2), none] [] M) (hE : ∀ z, o = .inr (.inl z) → V X 0 0 Q 34 [none, none, some (vi z), none, none, none] [] M) (hR : ∀ q, o = .inr (.inr q) → Q = Qn X (some (vi q)) M) : V X 0 0 Q 7 [none, none, some (vi x2), some (vi x3), some (vi x4), none] [] M := by
  unfold s_X11_commonDivisor_7 at h
  refine x_iload hX dX11_commonDivisor_7 rfl ?_
  refine x_bipush hX dX11_commonDivisor_9 bp_64 ?_
  refine x_icmp_ge (tgt := 34) hX dX11_commonDivisor_11 (by decide) rfl cw_64 (fun hc => ?_) (fun hc => ?_)
  · replace h := (if_pos hc).symm.trans h
    refine x_iloadn hX dX11_commonDivisor_14 rfl ?_
    refine x_if_le (tgt := 34) hX dX11_commonDivisor_15 (by decide) rfl (fun hc => ?_) (fun hc => ?_)
    · replace h := (if_pos hc).symm.trans h
      refine x_iloadn hX dX11_commonDivisor_18 rfl ?_
      refine x_iloadn hX dX11_commonDivisor_19 rfl ?_
      obtain ⟨b_1, h⟩ := gn_of h
      refine x_irem hX dX11_commonDivisor_20 b_1 ?_
      obtain ⟨x5_2, ex5_2, h⟩ := bnd_of h
      refine x_istore (ls' := [none, none, some (vi x2), some (vi x3), some (vi x4), some (vi x5_2)]) hX dX11_commonDivisor_21 rfl ex5_2 rfl ?_
      refine x_iloadn hX dX11_commonDivisor_23 rfl ?_
      refine x_istoren (ls' := [none, none, some (vi x3), some (vi x3), some (vi x4), some (vi x5_2)]) hX dX11_commonDivisor_24 rfl rfl rfl ?_
      refine x_iload hX dX11_commonDivisor_25 rfl ?_
      refine x_istoren (ls' := [none, none, some (vi x3), some (vi x5_2), some (vi x4), some (vi x5_2)]) hX dX11_commonDivisor_27 rfl rfl rfl ?_
      obtain ⟨x4_3, ex4_3, h⟩ := bnd_of h
      refine x_iinc (ls' := [none, none, some (vi x3), some (vi x5_2), some (vi x4_3), some (vi x5_2)]) hX dX11_commonDivisor_28 rfl rfl ex4_3 rfl ?_
      refine x_goto (tgt := 7) hX dX11_commonDivisor_31 (by decide) ?_
      exact x_weak [false, false, true, true, true, false] rfl (hP (x3, x5_2, x4_3) (Option.some.inj h).symm)
    · replace h := (if_neg hc).symm.trans h
      exact x_weak [false, false, true, false, false, false] rfl (hE x2 (Option.some.inj h).symm)
  · replace h := (if_neg hc).symm.trans h
    exact x_weak [false, false, true, false, false, false] rfl (hE x2 (Option.some.inj h).symm)
set_option maxRecDepth 100000 in
set_option maxHeartbeats 4000000 in
theorem tj_X11_commonDivisor_34 {X : Cxt} (hX : Gd X RX11 cX11_commonDivisor 6 (some .int) 1)   (x2 : Int) (M : Mem) (r : Int) (h : j_X11_commonDivisor_34 x2 M = some r) : V X 0 0 (Qn X (some (vi r)) M) 34 [none, none, some (vi x2), none, none, none] [] M := by
  unfold j_X11_commonDivisor_34 at h
  refine x_iconst hX dX11_commonDivisor_34 ?_
  refine x_iloadn hX dX11_commonDivisor_35 rfl ?_
  refine x_max (st := []) hX dX11_commonDivisor_36 maxw_X11_371 (Nat.le_of_ble_eq_true rfl) z0 ?_
  cases h
  exact x_iret hX dX11_commonDivisor_39 rfl
set_option maxRecDepth 100000 in
set_option maxHeartbeats 4000000 in
theorem c_X11_commonDivisor {l : Launch} {G : Gx} (hG : GOK G) (hl : l.stackTraces = false)  (x0 : Int) (x1 : Int) (M : Mem) (r : Int) (h : f_X11_commonDivisor x0 x1 M = some r) : Cn l G mX11_commonDivisor 1 [vi x0, vi x1] M (some (vi r)) M := by
  refine Cn_of2 (ls := [some (vi x0), some (vi x1), none, none, none, none]) hG hl kX11_commonDivisor rfl (Nat.le_of_ble_eq_true rfl) rfl rfl rfl rfl rfl (fun X eG el hX => ?_)
  subst eG; subst el
  unfold f_X11_commonDivisor at h
  refine x_iloadn hX dX11_commonDivisor_0 rfl ?_
  refine x_istoren (ls' := [some (vi x0), some (vi x1), some (vi x0), none, none, none]) hX dX11_commonDivisor_1 rfl rfl rfl ?_
  refine x_iloadn hX dX11_commonDivisor_2 rfl ?_
  refine x_istoren (ls' := [some (vi x0), some (vi x1), some (vi x0), some (vi x1), none, none]) hX dX11_commonDivisor_3 rfl rfl rfl ?_
  refine x_iconst hX dX11_commonDivisor_4 ?_
  refine x_istore (ls' := [some (vi x0), some (vi x1), some (vi x0), some (vi x1), some (vi 0), none]) hX dX11_commonDivisor_5 rfl rfl rfl ?_
  refine x_weak (ls' := [none, none, some (vi x0), some (vi x1), some (vi 0), none]) [false, false, true, true, true, false] rfl ?_
  refine lp_use (x := (x0, x1, 0)) (P := fun x => V X 0 0 (Qn X (some (vi r)) M) 7 [none, none, some (vi x.1), some (vi x.2.1), some (vi x.2.2), none] [] M) (PE := fun z_4 => V X 0 0 (Qn X (some (vi r)) M) 34 [none, none, some (vi z_4), none, none, none] [] M) (PR := fun q => (Qn X (some (vi r)) M) = Qn X (some (vi q)) M) h (fun x o hh hP hE hR => ts_X11_commonDivisor_7 hX M x.1 x.2.1 x.2.2 o hh hP hE hR) (fun z_4 h => ?_) (fun q h => ?_)
  · show V X 0 0 (Qn X (some (vi r)) M) 34 [none, none, some (vi z_4), none, none, none] [] M
    exact x_weak [false, false, true, false, false, false] rfl (tj_X11_commonDivisor_34 hX z_4 M r h)
  · cases h; rfl
set_option maxRecDepth 100000 in
set_option maxHeartbeats 4000000 in
theorem c_X0_append {l : Launch} {G : Gx} (hG : GOK G) (hl : l.stackTraces = false) {th : Nat} (h0 : at_ G th 10 0) (x1 : Int) (M : Mem) (r : Int) (Mr : Mem) (h : f_X0_append th x1 M = some (r, Mr)) : Cn l G mX0_append 1 [vr G th, vi x1] M (some (vi r)) Mr := by
  refine Cn_of2 (ls := [some (vr G th), some (vi x1), none]) hG hl kX0_append rfl (Nat.le_of_ble_eq_true rfl) rfl rfl rfl rfl rfl (fun X eG el hX => ?_)
  subst eG; subst el
  unfold f_X0_append at h
  refine x_aloadn hX dX0_append_0 rfl ?_
  refine x_getI hX dX0_append_1 fl_X0_15 rfl h0 ?_
  obtain ⟨x2_1, ex2_1, h⟩ := bnd_of h
  refine x_istoren (ls' := [some (vr (xG X) th), some (vi x1), some (vi x2_1)]) hX dX0_append_4 rfl ex2_1 rfl ?_
  refine x_aloadn hX dX0_append_5 rfl ?_
  refine x_getRj (j := th + 1) hX dX0_append_6 fl_X0_9 rfl h0 rfl ?_
  refine x_iloadn hX dX0_append_9 rfl ?_
  refine x_iloadn hX dX0_append_10 rfl ?_
  obtain ⟨b_3, h⟩ := gi_of h
  obtain ⟨M_2, eM_2, h⟩ := bnd_of h
  refine x_iast hX dX0_append_11 (fo_0_1 (gk hX) h0) b_3 rfl (x_meq eM_2 ?_)
  refine x_aloadn hX dX0_append_12 rfl ?_
  refine x_dup hX dX0_append_13 rfl ?_
  refine x_getI hX dX0_append_14 fl_X0_15 rfl h0 ?_
  refine x_iconst hX dX0_append_17 ?_
  refine x_iadd hX dX0_append_18 ?_
  obtain ⟨M_4, eM_4, h⟩ := bnd_of h
  refine x_putI hX dX0_append_19 fp_X0_15 rfl h0 (x_meq eM_4 ?_)
  refine x_iloadn hX dX0_append_22 rfl ?_
  cases h
  exact x_iret hX dX0_append_23 rfl
set_option maxRecDepth 100000 in
set_option maxHeartbeats 4000000 in
theorem ts_X0_drop_4 {X : Cxt} (hX : Gd X RX0 cX0_drop 3 (none) 1) {th : Nat} (h0 : at_ (xG X) th 10 0) (x2 : Int) (M : Mem) {Q : State → Prop} (o : (Int × Mem) ⊕ ((Mem) ⊕ (Mem))) (h : s_X0_drop_4 th x2 M = some o) (hP : ∀ y, o = .inl y → V X 0 0 Q 4 [some (vr (xG X) th), none, some (vi y.1)] [] y.2) (hE : ∀ z, o = .inr (.inl z) → V X 0 0 Q 32 [some (vr (xG X) th), none, none] [] z) (hR : ∀ q, o = .inr (.inr q) → Q = Qn X none q) : V X 0 0 Q 4 [some (vr (xG X) th), none, some (vi x2)] [] M := by
  unfold s_X0_drop_4 at h
  refine x_iloadn hX dX0_drop_4 rfl ?_
  refine x_aloadn hX dX0_drop_5 rfl ?_
  refine x_getI hX dX0_drop_6 fl_X0_15 rfl h0 ?_
  refine x_icmp_ge (tgt := 32) hX dX0_drop_9 (by decide) rfl rfl (fun hc => ?_) (fun hc => ?_)
  · replace h := (if_pos hc).symm.trans h
    refine x_aloadn hX dX0_drop_12 rfl ?_
    refine x_getRj (j := th + 1) hX dX0_drop_13 fl_X0_9 rfl h0 rfl ?_
    refine x_iloadn hX dX0_drop_16 rfl ?_
    refine x_iconst hX dX0_drop_17 ?_
    refine x_isub hX dX0_drop_18 ?_
    refine x_aloadn hX dX0_drop_19 rfl ?_
    refine x_getRj (j := th + 1) hX dX0_drop_20 fl_X0_9 rfl h0 rfl ?_
    refine x_iloadn hX dX0_drop_23 rfl ?_
    obtain ⟨b_2, h⟩ := gi_of h
    refine x_iald hX dX0_drop_24 (fo_0_1 (gk hX) h0) b_2 rfl ?_
    obtain ⟨b_4, h⟩ := gi_of h
    obtain ⟨M_3, eM_3, h⟩ := bnd_of h
    refine x_iast hX dX0_drop_25 (fo_0_1 (gk hX) h0) b_4 rfl (x_meq eM_3 ?_)
    obtain ⟨x2_5, ex2_5, h⟩ := bnd_of h
    refine x_iinc (ls' := [some (vr (xG X) th), none, some (vi x2_5)]) hX dX0_drop_26 rfl rfl ex2_5 rfl ?_
    refine x_goto (tgt := 4) hX dX0_drop_29 (by decide) ?_
    exact x_weak [true, false, true] rfl (hP (x2_5, M_3) (Option.some.inj h).symm)
  · replace h := (if_neg hc).symm.trans h
    exact x_weak [true, false, false] rfl (hE M (Option.some.inj h).symm)
set_option maxRecDepth 100000 in
set_option maxHeartbeats 4000000 in
theorem c_X0_drop {l : Launch} {G : Gx} (hG : GOK G) (hl : l.stackTraces = false) {th : Nat} (h0 : at_ G th 10 0) (x1 : Int) (M : Mem) (Mr : Mem) (h : f_X0_drop th x1 M = some Mr) : Cn l G mX0_drop 1 [vr G th, vi x1] M none Mr := by
  refine Cn_of2 (ls := [some (vr G th), some (vi x1), none]) hG hl kX0_drop rfl (Nat.le_of_ble_eq_true rfl) rfl rfl rfl rfl rfl (fun X eG el hX => ?_)
  subst eG; subst el
  unfold f_X0_drop at h
  refine x_iloadn hX dX0_drop_0 rfl ?_
  refine x_iconst hX dX0_drop_1 ?_
  refine x_iadd hX dX0_drop_2 ?_
  obtain ⟨x2_1, ex2_1, h⟩ := bnd_of h
  refine x_istoren (ls' := [some (vr (xG X) th), some (vi x1), some (vi x2_1)]) hX dX0_drop_3 rfl ex2_1 rfl ?_
  refine x_weak (ls' := [some (vr (xG X) th), none, some (vi x2_1)]) [true, false, true] rfl ?_
  refine lp_use (x := (x2_1, M)) (P := fun x => V X 0 0 (Qn X none Mr) 4 [some (vr (xG X) th), none, some (vi x.1)] [] x.2) (PE := fun z_6 => V X 0 0 (Qn X none Mr) 32 [some (vr (xG X) th), none, none] [] z_6) (PR := fun q => (Qn X none Mr) = Qn X none q) h (fun x o hh hP hE hR => ts_X0_drop_4 hX h0 x.1 x.2 o hh hP hE hR) (fun z_6 h => ?_) (fun q h => ?_)
  · show V X 0 0 (Qn X none Mr) 32 [some (vr (xG X) th), none, none] [] z_6
    refine x_aloadn hX dX0_drop_32 rfl ?_
    refine x_dup hX dX0_drop_33 rfl ?_
    refine x_getI hX dX0_drop_34 fl_X0_15 rfl h0 ?_
    refine x_iconst hX dX0_drop_37 ?_
    refine x_isub hX dX0_drop_38 ?_
    obtain ⟨M_7, eM_7, h⟩ := bnd_of h
    refine x_putI hX dX0_drop_39 fp_X0_15 rfl h0 (x_meq eM_7 ?_)
    cases h
    exact x_vret hX dX0_drop_42 rfl
  · cases h; rfl
set_option maxRecDepth 100000 in
set_option maxHeartbeats 4000000 in
theorem ts_X0_batchWith_2 {X : Cxt} (hX : Gd X RX0 cX0_batchWith 3 (some .int) 1) {th : Nat} (h0 : at_ (xG X) th 10 0) (x1 : Int) (M : Mem) (x2 : Int) {Q : State → Prop} (o : (Int) ⊕ ((Unit) ⊕ (Int))) (h : s_X0_batchWith_2 th x1 M x2 = some o) (hP : ∀ y, o = .inl y → V X 0 0 Q 2 [some (vr (xG X) th), some (vi x1), some (vi y)] [] M) (hE : ∀ z, o = .inr (.inl z) → V X 0 0 Q 31 [none, none, none] [] M) (hR : ∀ q, o = .inr (.inr q) → Q = Qn X (some (vi q)) M) : V X 0 0 Q 2 [some (vr (xG X) th), some (vi x1), some (vi x2)] [] M := by
  unfold s_X0_batchWith_2 at h
  refine x_iloadn hX dX0_batchWith_2 rfl ?_
  refine x_aloadn hX dX0_batchWith_3 rfl ?_
  refine x_getI hX dX0_batchWith_4 fl_X0_15 rfl h0 ?_
  refine x_icmp_ge (tgt := 31) hX dX0_batchWith_7 (by decide) rfl rfl (fun hc => ?_) (fun hc => ?_)
  · replace h := (if_pos hc).symm.trans h
    refine x_aloadn hX dX0_batchWith_10 rfl ?_
    refine x_getRj (j := th + 1) hX dX0_batchWith_11 fl_X0_9 rfl h0 rfl ?_
    refine x_iloadn hX dX0_batchWith_14 rfl ?_
    obtain ⟨b_1, h⟩ := gi_of h
    refine x_iald hX dX0_batchWith_15 (fo_0_1 (gk hX) h0) b_1 rfl ?_
    refine x_iloadn hX dX0_batchWith_16 rfl ?_
    refine x_ishr hX dX0_batchWith_17 ?_
    refine x_iconst hX dX0_batchWith_18 ?_
    refine x_iand hX dX0_batchWith_19 ?_
    refine x_if_eq (tgt := 25) hX dX0_batchWith_20 (by decide) rfl (fun hc => ?_) (fun hc => ?_)
    · replace h := (if_pos hc).symm.trans h
      obtain ⟨x2_2, ex2_2, h⟩ := bnd_of h
      refine x_iinc (ls' := [some (vr (xG X) th), some (vi x1), some (vi x2_2)]) hX dX0_batchWith_25 rfl rfl ex2_2 rfl ?_
      refine x_goto (tgt := 2) hX dX0_batchWith_28 (by decide) ?_
      exact x_weak [true, true, true] rfl (hP x2_2 (Option.some.inj h).symm)
    · replace h := (if_neg hc).symm.trans h
      refine x_iloadn hX dX0_batchWith_23 rfl ?_
      exact x_qeq (hR x2 (Option.some.inj h).symm) (x_iret hX dX0_batchWith_24 rfl)
  · replace h := (if_neg hc).symm.trans h
    exact x_weak [false, false, false] rfl (hE () (Option.some.inj h).symm)
set_option maxRecDepth 100000 in
set_option maxHeartbeats 4000000 in
theorem c_X0_batchWith {l : Launch} {G : Gx} (hG : GOK G) (hl : l.stackTraces = false) {th : Nat} (h0 : at_ G th 10 0) (x1 : Int) (M : Mem) (r : Int) (h : f_X0_batchWith th x1 M = some r) : Cn l G mX0_batchWith 1 [vr G th, vi x1] M (some (vi r)) M := by
  refine Cn_of2 (ls := [some (vr G th), some (vi x1), none]) hG hl kX0_batchWith rfl (Nat.le_of_ble_eq_true rfl) rfl rfl rfl rfl rfl (fun X eG el hX => ?_)
  subst eG; subst el
  unfold f_X0_batchWith at h
  refine x_iconst hX dX0_batchWith_0 ?_
  refine x_istoren (ls' := [some (vr (xG X) th), some (vi x1), some (vi 0)]) hX dX0_batchWith_1 rfl rfl rfl ?_
  refine x_weak (ls' := [some (vr (xG X) th), some (vi x1), some (vi 0)]) [true, true, true] rfl ?_
  refine lp_use (x := 0) (P := fun x => V X 0 0 (Qn X (some (vi r)) M) 2 [some (vr (xG X) th), some (vi x1), some (vi x)] [] M) (PE := fun z_3 => V X 0 0 (Qn X (some (vi r)) M) 31 [none, none, none] [] M) (PR := fun q => (Qn X (some (vi r)) M) = Qn X (some (vi q)) M) h (fun x o hh hP hE hR => ts_X0_batchWith_2 hX h0 x1 M x o hh hP hE hR) (fun z_3 h => ?_) (fun q h => ?_)
  · show V X 0 0 (Qn X (some (vi r)) M) 31 [none, none, none] [] M
    refine x_iconst hX dX0_batchWith_31 ?_
    cases h
    exact x_iret hX dX0_batchWith_32 rfl
  · cases h; rfl
set_option maxRecDepth 100000 in
set_option maxHeartbeats 4000000 in
theorem c_X0_copyFrom {l : Launch} {G : Gx} (hG : GOK G) (hl : l.stackTraces = false) {th : Nat} (h0 : at_ G th 10 0) {a1 : Nat} (h1 : at_ G a1 10 0) (M : Mem) (Mr : Mem) (h : f_X0_copyFrom th a1 M = some Mr) : Cn l G mX0_copyFrom 1 [vr G th, vr G a1] M none Mr := by
  refine Cn_of2 (ls := [some (vr G th), some (vr G a1)]) hG hl kX0_copyFrom rfl (Nat.le_of_ble_eq_true rfl) rfl rfl rfl rfl rfl (fun X eG el hX => ?_)
  subst eG; subst el
  unfold f_X0_copyFrom at h
  refine x_aloadn hX dX0_copyFrom_0 rfl ?_
  refine x_aloadn hX dX0_copyFrom_1 rfl ?_
  refine x_getI hX dX0_copyFrom_2 fl_X0_15 rfl h1 ?_
  obtain ⟨M_1, eM_1, h⟩ := bnd_of h
  refine x_putI hX dX0_copyFrom_5 fp_X0_15 rfl h0 (x_meq eM_1 ?_)
  refine x_aloadn hX dX0_copyFrom_8 rfl ?_
  refine x_getRj (j := a1 + 1) hX dX0_copyFrom_9 fl_X0_9 rfl h1 rfl ?_
  refine x_iconst hX dX0_copyFrom_12 ?_
  refine x_aloadn hX dX0_copyFrom_13 rfl ?_
  refine x_getRj (j := th + 1) hX dX0_copyFrom_14 fl_X0_9 rfl h0 rfl ?_
  refine x_iconst hX dX0_copyFrom_17 ?_
  refine x_bipush hX dX0_copyFrom_18 bp_8 ?_
  obtain ⟨M_2, eM_2, h⟩ := bnd_of h
  refine x_copy (st := []) hX dX0_copyFrom_20 cpw_X0_31 (fo_0_1 (gk hX) h1) (fo_0_1 (gk hX) h0) (by decide +kernel) (Nat.le_of_ble_eq_true rfl) (Nat.le_of_ble_eq_true rfl) (Nat.le_of_ble_eq_true rfl) (x_meq eM_2 ?_)
  cases h
  exact x_vret hX dX0_copyFrom_23 rfl
set_option maxRecDepth 100000 in
set_option maxHeartbeats 4000000 in
theorem ts_X1_weightOf_4 {X : Cxt} (hX : Gd X RX1 cX1_weightOf 5 (some .int) 1) {th : Nat} (h0 : at_ (xG X) th 11 0) (x1 : Int) (M : Mem) (x2 : Int) (x3 : Int) {Q : State → Prop} (o : (Int × Int) ⊕ ((Int) ⊕ (Int))) (h : s_X1_weightOf_4 th x1 M x2 x3 = some o) (hP : ∀ y, o = .inl y → V X 0 0 Q 4 [some (vr (xG X) th), some (vi x1), some (vi y.1), some (vi y.2), none] [] M) (hE : ∀ z, o = .inr (.inl z) → V X 0 0 Q 63 [none, none, some (vi z), none, none] [] M) (hR : ∀ q, o = .inr (.inr q) → Q = Qn X (some (vi q)) M) : V X 0 0 Q 4 [some (vr (xG X) th), some (vi x1), some (vi x2), some (vi x3), none] [] M := by
  unfold s_X1_weightOf_4 at h
  refine x_iloadn hX dX1_weightOf_4 rfl ?_
  refine x_aloadn hX dX1_weightOf_5 rfl ?_
  refine x_getRj (j := th + 9) hX dX1_weightOf_6 fl_X1_28 rfl h0 rfl ?_
  refine x_getRj (j := th + 9 + 3) hX dX1_weightOf_9 fl_X1_64 rfl (fo_1_2 (gk hX) h0) rfl ?_
  refine x_iloadn hX dX1_weightOf_12 rfl ?_
  obtain ⟨b_1, h⟩ := gi_of h
  refine x_iald hX dX1_weightOf_13 (fo_5_4 (gk hX) (fo_1_2 (gk hX) h0)) b_1 rfl ?_
  refine x_icmp_ge (tgt := 63) hX dX1_weightOf_14 (by decide) rfl rfl (fun hc => ?_) (fun hc => ?_)
  · replace h := (if_pos hc).symm.trans h
    refine x_iloadn hX dX1_weightOf_17 rfl ?_
    refine x_bipush hX dX1_weightOf_18 bp_6 ?_
    refine x_imul hX dX1_weightOf_20 ?_
    refine x_iloadn hX dX1_weightOf_21 rfl ?_
    refine x_iadd hX dX1_weightOf_22 ?_
    obtain ⟨x4_2, ex4_2, h⟩ := bnd_of h
    refine x_istore (ls' := [some (vr (xG X) th), some (vi x1), some (vi x2), some (vi x3), some (vi x4_2)]) hX dX1_weightOf_23 rfl ex4_2 rfl ?_
    refine x_iloadn hX dX1_weightOf_25 rfl ?_
    refine x_aloadn hX dX1_weightOf_26 rfl ?_
    refine x_getRj (j := th + 9) hX dX1_weightOf_27 fl_X1_28 rfl h0 rfl ?_
    refine x_getRj (j := th + 9 + 5) hX dX1_weightOf_30 fl_X1_68 rfl (fo_1_2 (gk hX) h0) rfl ?_
    refine x_iload hX dX1_weightOf_33 rfl ?_
    obtain ⟨b_3, h⟩ := gi_of h
    refine x_iald hX dX1_weightOf_35 (fo_5_6 (gk hX) (fo_1_2 (gk hX) h0)) b_3 rfl ?_
    refine x_aloadn hX dX1_weightOf_36 rfl ?_
    refine x_getRj (j := th + 4) hX dX1_weightOf_37 fl_X1_21 rfl h0 rfl ?_
    refine x_getRj (j := th + 4 + 3) hX dX1_weightOf_40 fl_X1_71 rfl (fo_1_1 (gk hX) h0) rfl ?_
    refine x_aloadn hX dX1_weightOf_43 rfl ?_
    refine x_getRj (j := th + 9) hX dX1_weightOf_44 fl_X1_28 rfl h0 rfl ?_
    refine x_getRj (j := th + 9 + 4) hX dX1_weightOf_47 fl_X1_74 rfl (fo_1_2 (gk hX) h0) rfl ?_
    refine x_iload hX dX1_weightOf_50 rfl ?_
    obtain ⟨b_4, h⟩ := gi_of h
    refine x_iald hX dX1_weightOf_52 (fo_5_5 (gk hX) (fo_1_2 (gk hX) h0)) b_4 rfl ?_
    obtain ⟨b_5, h⟩ := gi_of h
    refine x_iald hX dX1_weightOf_53 (fo_2_3 (gk hX) (fo_1_1 (gk hX) h0)) b_5 rfl ?_
    refine x_imul hX dX1_weightOf_54 ?_
    refine x_iadd hX dX1_weightOf_55 ?_
    obtain ⟨x2_6, ex2_6, h⟩ := bnd_of h
    refine x_istoren (ls' := [some (vr (xG X) th), some (vi x1), some (vi x2_6), some (vi x3), some (vi x4_2)]) hX dX1_weightOf_56 rfl ex2_6 rfl ?_
    obtain ⟨x3_7, ex3_7, h⟩ := bnd_of h
    refine x_iinc (ls' := [some (vr (xG X) th), some (vi x1), some (vi x2_6), some (vi x3_7), some (vi x4_2)]) hX dX1_weightOf_57 rfl rfl ex3_7 rfl ?_
    refine x_goto (tgt := 4) hX dX1_weightOf_60 (by decide) ?_
    exact x_weak [true, true, true, true, false] rfl (hP (x2_6, x3_7) (Option.some.inj h).symm)
  · replace h := (if_neg hc).symm.trans h
    exact x_weak [false, false, true, false, false] rfl (hE x2 (Option.some.inj h).symm)
set_option maxRecDepth 100000 in
set_option maxHeartbeats 4000000 in
theorem c_X1_weightOf {l : Launch} {G : Gx} (hG : GOK G) (hl : l.stackTraces = false) {th : Nat} (h0 : at_ G th 11 0) (x1 : Int) (M : Mem) (r : Int) (h : f_X1_weightOf th x1 M = some r) : Cn l G mX1_weightOf 1 [vr G th, vi x1] M (some (vi r)) M := by
  refine Cn_of2 (ls := [some (vr G th), some (vi x1), none, none, none]) hG hl kX1_weightOf rfl (Nat.le_of_ble_eq_true rfl) rfl rfl rfl rfl rfl (fun X eG el hX => ?_)
  subst eG; subst el
  unfold f_X1_weightOf at h
  refine x_iconst hX dX1_weightOf_0 ?_
  refine x_istoren (ls' := [some (vr (xG X) th), some (vi x1), some (vi 0), none, none]) hX dX1_weightOf_1 rfl rfl rfl ?_
  refine x_iconst hX dX1_weightOf_2 ?_
  refine x_istoren (ls' := [some (vr (xG X) th), some (vi x1), some (vi 0), some (vi 0), none]) hX dX1_weightOf_3 rfl rfl rfl ?_
  refine x_weak (ls' := [some (vr (xG X) th), some (vi x1), some (vi 0), some (vi 0), none]) [true, true, true, true, false] rfl ?_
  refine lp_use (x := (0, 0)) (P := fun x => V X 0 0 (Qn X (some (vi r)) M) 4 [some (vr (xG X) th), some (vi x1), some (vi x.1), some (vi x.2), none] [] M) (PE := fun z_8 => V X 0 0 (Qn X (some (vi r)) M) 63 [none, none, some (vi z_8), none, none] [] M) (PR := fun q => (Qn X (some (vi r)) M) = Qn X (some (vi q)) M) h (fun x o hh hP hE hR => ts_X1_weightOf_4 hX h0 x1 M x.1 x.2 o hh hP hE hR) (fun z_8 h => ?_) (fun q h => ?_)
  · show V X 0 0 (Qn X (some (vi r)) M) 63 [none, none, some (vi z_8), none, none] [] M
    refine x_iloadn hX dX1_weightOf_63 rfl ?_
    cases h
    exact x_iret hX dX1_weightOf_64 rfl
  · cases h; rfl
set_option maxRecDepth 100000 in
set_option maxHeartbeats 4000000 in
theorem ts_X1_aislesOf_4 {X : Cxt} (hX : Gd X RX1 cX1_aislesOf 4 (some .int) 1) {th : Nat} (h0 : at_ (xG X) th 11 0) (x1 : Int) (M : Mem) (x2 : Int) (x3 : Int) {Q : State → Prop} (o : (Int × Int) ⊕ ((Int) ⊕ (Int))) (h : s_X1_aislesOf_4 th x1 M x2 x3 = some o) (hP : ∀ y, o = .inl y → V X 0 0 Q 4 [some (vr (xG X) th), some (vi x1), some (vi y.1), some (vi y.2)] [] M) (hE : ∀ z, o = .inr (.inl z) → V X 0 0 Q 50 [none, none, some (vi z), none] [] M) (hR : ∀ q, o = .inr (.inr q) → Q = Qn X (some (vi q)) M) : V X 0 0 Q 4 [some (vr (xG X) th), some (vi x1), some (vi x2), some (vi x3)] [] M := by
  unfold s_X1_aislesOf_4 at h
  refine x_iloadn hX dX1_aislesOf_4 rfl ?_
  refine x_aloadn hX dX1_aislesOf_5 rfl ?_
  refine x_getRj (j := th + 9) hX dX1_aislesOf_6 fl_X1_28 rfl h0 rfl ?_
  refine x_getRj (j := th + 9 + 3) hX dX1_aislesOf_9 fl_X1_64 rfl (fo_1_2 (gk hX) h0) rfl ?_
  refine x_iloadn hX dX1_aislesOf_12 rfl ?_
  obtain ⟨b_1, h⟩ := gi_of h
  refine x_iald hX dX1_aislesOf_13 (fo_5_4 (gk hX) (fo_1_2 (gk hX) h0)) b_1 rfl ?_
  refine x_icmp_ge (tgt := 50) hX dX1_aislesOf_14 (by decide) rfl rfl (fun hc => ?_) (fun hc => ?_)
  · replace h := (if_pos hc).symm.trans h
    refine x_iloadn hX dX1_aislesOf_17 rfl ?_
    refine x_iconst hX dX1_aislesOf_18 ?_
    refine x_aloadn hX dX1_aislesOf_19 rfl ?_
    refine x_getRj (j := th + 4) hX dX1_aislesOf_20 fl_X1_21 rfl h0 rfl ?_
    refine x_getRj (j := th + 4 + 1) hX dX1_aislesOf_23 fl_X1_81 rfl (fo_1_1 (gk hX) h0) rfl ?_
    refine x_aloadn hX dX1_aislesOf_26 rfl ?_
    refine x_getRj (j := th + 9) hX dX1_aislesOf_27 fl_X1_28 rfl h0 rfl ?_
    refine x_getRj (j := th + 9 + 4) hX dX1_aislesOf_30 fl_X1_74 rfl (fo_1_2 (gk hX) h0) rfl ?_
    refine x_iloadn hX dX1_aislesOf_33 rfl ?_
    refine x_bipush hX dX1_aislesOf_34 bp_6 ?_
    refine x_imul hX dX1_aislesOf_36 ?_
    refine x_iloadn hX dX1_aislesOf_37 rfl ?_
    refine x_iadd hX dX1_aislesOf_38 ?_
    obtain ⟨b_2, h⟩ := gi_of h
    refine x_iald hX dX1_aislesOf_39 (fo_5_5 (gk hX) (fo_1_2 (gk hX) h0)) b_2 rfl ?_
    obtain ⟨b_3, h⟩ := gi_of h
    refine x_iald hX dX1_aislesOf_40 (fo_2_1 (gk hX) (fo_1_1 (gk hX) h0)) b_3 rfl ?_
    refine x_ishl hX dX1_aislesOf_41 ?_
    refine x_ior hX dX1_aislesOf_42 ?_
    obtain ⟨x2_4, ex2_4, h⟩ := bnd_of h
    refine x_istoren (ls' := [some (vr (xG X) th), some (vi x1), some (vi x2_4), some (vi x3)]) hX dX1_aislesOf_43 rfl ex2_4 rfl ?_
    obtain ⟨x3_5, ex3_5, h⟩ := bnd_of h
    refine x_iinc (ls' := [some (vr (xG X) th), some (vi x1), some (vi x2_4), some (vi x3_5)]) hX dX1_aislesOf_44 rfl rfl ex3_5 rfl ?_
    refine x_goto (tgt := 4) hX dX1_aislesOf_47 (by decide) ?_
    exact x_weak [true, true, true, true] rfl (hP (x2_4, x3_5) (Option.some.inj h).symm)
  · replace h := (if_neg hc).symm.trans h
    exact x_weak [false, false, true, false] rfl (hE x2 (Option.some.inj h).symm)
set_option maxRecDepth 100000 in
set_option maxHeartbeats 4000000 in
theorem c_X1_aislesOf {l : Launch} {G : Gx} (hG : GOK G) (hl : l.stackTraces = false) {th : Nat} (h0 : at_ G th 11 0) (x1 : Int) (M : Mem) (r : Int) (h : f_X1_aislesOf th x1 M = some r) : Cn l G mX1_aislesOf 1 [vr G th, vi x1] M (some (vi r)) M := by
  refine Cn_of2 (ls := [some (vr G th), some (vi x1), none, none]) hG hl kX1_aislesOf rfl (Nat.le_of_ble_eq_true rfl) rfl rfl rfl rfl rfl (fun X eG el hX => ?_)
  subst eG; subst el
  unfold f_X1_aislesOf at h
  refine x_iconst hX dX1_aislesOf_0 ?_
  refine x_istoren (ls' := [some (vr (xG X) th), some (vi x1), some (vi 0), none]) hX dX1_aislesOf_1 rfl rfl rfl ?_
  refine x_iconst hX dX1_aislesOf_2 ?_
  refine x_istoren (ls' := [some (vr (xG X) th), some (vi x1), some (vi 0), some (vi 0)]) hX dX1_aislesOf_3 rfl rfl rfl ?_
  refine x_weak (ls' := [some (vr (xG X) th), some (vi x1), some (vi 0), some (vi 0)]) [true, true, true, true] rfl ?_
  refine lp_use (x := (0, 0)) (P := fun x => V X 0 0 (Qn X (some (vi r)) M) 4 [some (vr (xG X) th), some (vi x1), some (vi x.1), some (vi x.2)] [] M) (PE := fun z_6 => V X 0 0 (Qn X (some (vi r)) M) 50 [none, none, some (vi z_6), none] [] M) (PR := fun q => (Qn X (some (vi r)) M) = Qn X (some (vi q)) M) h (fun x o hh hP hE hR => ts_X1_aislesOf_4 hX h0 x1 M x.1 x.2 o hh hP hE hR) (fun z_6 h => ?_) (fun q h => ?_)
  · show V X 0 0 (Qn X (some (vi r)) M) 50 [none, none, some (vi z_6), none] [] M
    refine x_iloadn hX dX1_aislesOf_50 rfl ?_
    cases h
    exact x_iret hX dX1_aislesOf_51 rfl
  · cases h; rfl
set_option maxRecDepth 100000 in
set_option maxHeartbeats 4000000 in
theorem tj_X1_itemsOfAll_66_4 {X : Cxt} (hX : Gd X RX1 cX1_itemsOfAll 5 (some .int) 1) {th : Nat} (h0 : at_ (xG X) th 11 0)  (x1 : Int) (x2 : Int) (x3 : Int) (M : Mem) {Q : State → Prop} (o : (Int × Int) ⊕ ((Int) ⊕ (Int))) (h : j_X1_itemsOfAll_66_4 th x1 x2 x3 M = some o) (hP : ∀ y, o = .inl y → V X 0 0 Q 4 [some (vr (xG X) th), some (vi x1), some (vi y.1), some (vi y.2), none] [] M) (hE : ∀ z, o = .inr (.inl z) → V X 0 0 Q 72 [none, none, some (vi z), none, none] [] M) (hR : ∀ q, o = .inr (.inr q) → Q = Qn X (some (vi q)) M) : V X 0 0 Q 66 [some (vr (xG X) th), some (vi x1), some (vi x2), some (vi x3), none] [] M := by
  unfold j_X1_itemsOfAll_66_4 at h
  obtain ⟨x3_1, ex3_1, h⟩ := bnd_of h
  refine x_iinc (ls' := [some (vr (xG X) th), some (vi x1), some (vi x2), some (vi x3_1), none]) hX dX1_itemsOfAll_66 rfl rfl ex3_1 rfl ?_
  refine x_goto (tgt := 4) hX dX1_itemsOfAll_69 (by decide) ?_
  exact x_weak [true, true, true, true, false] rfl (hP (x2, x3_1) (Option.some.inj h).symm)
set_option maxRecDepth 100000 in
set_option maxHeartbeats 4000000 in
theorem ts_X1_itemsOfAll_26 {X : Cxt} (hX : Gd X RX1 cX1_itemsOfAll 5 (some .int) 1) {th : Nat} (h0 : at_ (xG X) th 11 0) (x1 : Int) (x3 : Int) (M : Mem) (x2 : Int) (x4 : Int) {Q : State → Prop} (o : (Int × Int) ⊕ ((Int) ⊕ (Int))) (h : s_X1_itemsOfAll_26 th x1 x3 M x2 x4 = some o) (hP : ∀ y, o = .inl y → V X 0 0 Q 26 [some (vr (xG X) th), some (vi x1), some (vi y.1), some (vi x3), some (vi y.2)] [] M) (hE : ∀ z, o = .inr (.inl z) → V X 0 0 Q 66 [some (vr (xG X) th), some (vi x1), some (vi z), some (vi x3), none] [] M) (hR : ∀ q, o = .inr (.inr q) → Q = Qn X (some (vi q)) M) : V X 0 0 Q 26 [some (vr (xG X) th), some (vi x1), some (vi x2), some (vi x3), some (vi x4)] [] M := by
  unfold s_X1_itemsOfAll_26 at h
  refine x_iload hX dX1_itemsOfAll_26 rfl ?_
  refine x_aloadn hX dX1_itemsOfAll_28 rfl ?_
  refine x_getRj (j := th + 9) hX dX1_itemsOfAll_29 fl_X1_28 rfl h0 rfl ?_
  refine x_getRj (j := th + 9 + 3) hX dX1_itemsOfAll_32 fl_X1_64 rfl (fo_1_2 (gk hX) h0) rfl ?_
  refine x_iloadn hX dX1_itemsOfAll_35 rfl ?_
  obtain ⟨b_2, h⟩ := gi_of h
  refine x_iald hX dX1_itemsOfAll_36 (fo_5_4 (gk hX) (fo_1_2 (gk hX) h0)) b_2 rfl ?_
  refine x_icmp_ge (tgt := 66) hX dX1_itemsOfAll_37 (by decide) rfl rfl (fun hc => ?_) (fun hc => ?_)
  · replace h := (if_pos hc).symm.trans h
    refine x_iloadn hX dX1_itemsOfAll_40 rfl ?_
    refine x_iconst hX dX1_itemsOfAll_41 ?_
    refine x_aloadn hX dX1_itemsOfAll_42 rfl ?_
    refine x_getRj (j := th + 9) hX dX1_itemsOfAll_43 fl_X1_28 rfl h0 rfl ?_
    refine x_getRj (j := th + 9 + 4) hX dX1_itemsOfAll_46 fl_X1_74 rfl (fo_1_2 (gk hX) h0) rfl ?_
    refine x_iloadn hX dX1_itemsOfAll_49 rfl ?_
    refine x_bipush hX dX1_itemsOfAll_50 bp_6 ?_
    refine x_imul hX dX1_itemsOfAll_52 ?_
    refine x_iload hX dX1_itemsOfAll_53 rfl ?_
    refine x_iadd hX dX1_itemsOfAll_55 ?_
    obtain ⟨b_3, h⟩ := gi_of h
    refine x_iald hX dX1_itemsOfAll_56 (fo_5_5 (gk hX) (fo_1_2 (gk hX) h0)) b_3 rfl ?_
    refine x_ishl hX dX1_itemsOfAll_57 ?_
    refine x_ior hX dX1_itemsOfAll_58 ?_
    obtain ⟨x2_4, ex2_4, h⟩ := bnd_of h
    refine x_istoren (ls' := [some (vr (xG X) th), some (vi x1), some (vi x2_4), some (vi x3), some (vi x4)]) hX dX1_itemsOfAll_59 rfl ex2_4 rfl ?_
    obtain ⟨x4_5, ex4_5, h⟩ := bnd_of h
    refine x_iinc (ls' := [some (vr (xG X) th), some (vi x1), some (vi x2_4), some (vi x3), some (vi x4_5)]) hX dX1_itemsOfAll_60 rfl rfl ex4_5 rfl ?_
    refine x_goto (tgt := 26) hX dX1_itemsOfAll_63 (by decide) ?_
    exact x_weak [true, true, true, true, true] rfl (hP (x2_4, x4_5) (Option.some.inj h).symm)
  · replace h := (if_neg hc).symm.trans h
    exact x_weak [true, true, true, true, false] rfl (hE x2 (Option.some.inj h).symm)
set_option maxRecDepth 100000 in
set_option maxHeartbeats 4000000 in
theorem ts_X1_itemsOfAll_4 {X : Cxt} (hX : Gd X RX1 cX1_itemsOfAll 5 (some .int) 1) {th : Nat} (h0 : at_ (xG X) th 11 0) (x1 : Int) (M : Mem) (x2 : Int) (x3 : Int) {Q : State → Prop} (o : (Int × Int) ⊕ ((Int) ⊕ (Int))) (h : s_X1_itemsOfAll_4 th x1 M x2 x3 = some o) (hP : ∀ y, o = .inl y → V X 0 0 Q 4 [some (vr (xG X) th), some (vi x1), some (vi y.1), some (vi y.2), none] [] M) (hE : ∀ z, o = .inr (.inl z) → V X 0 0 Q 72 [none, none, some (vi z), none, none] [] M) (hR : ∀ q, o = .inr (.inr q) → Q = Qn X (some (vi q)) M) : V X 0 0 Q 4 [some (vr (xG X) th), some (vi x1), some (vi x2), some (vi x3), none] [] M := by
  unfold s_X1_itemsOfAll_4 at h
  refine x_iloadn hX dX1_itemsOfAll_4 rfl ?_
  refine x_aloadn hX dX1_itemsOfAll_5 rfl ?_
  refine x_getRj (j := th + 9) hX dX1_itemsOfAll_6 fl_X1_28 rfl h0 rfl ?_
  refine x_getI hX dX1_itemsOfAll_9 fl_X1_46 rfl (fo_1_2 (gk hX) h0) ?_
  refine x_icmp_ge (tgt := 72) hX dX1_itemsOfAll_12 (by decide) rfl rfl (fun hc => ?_) (fun hc => ?_)
  · replace h := (if_pos hc).symm.trans h
    refine x_iloadn hX dX1_itemsOfAll_15 rfl ?_
    refine x_iloadn hX dX1_itemsOfAll_16 rfl ?_
    refine x_ishr hX dX1_itemsOfAll_17 ?_
    refine x_iconst hX dX1_itemsOfAll_18 ?_
    refine x_iand hX dX1_itemsOfAll_19 ?_
    refine x_if_eq (tgt := 66) hX dX1_itemsOfAll_20 (by decide) rfl (fun hc => ?_) (fun hc => ?_)
    · replace h := (if_pos hc).symm.trans h
      exact x_weak [true, true, true, true, false] rfl (tj_X1_itemsOfAll_66_4 hX h0 x1 x2 x3 M o h hP hE hR)
    · replace h := (if_neg hc).symm.trans h
      refine x_iconst hX dX1_itemsOfAll_23 ?_
      refine x_istore (ls' := [some (vr (xG X) th), some (vi x1), some (vi x2), some (vi x3), some (vi 0)]) hX dX1_itemsOfAll_24 rfl rfl rfl ?_
      refine x_weak (ls' := [some (vr (xG X) th), some (vi x1), some (vi x2), some (vi x3), some (vi 0)]) [true, true, true, true, true] rfl ?_
      refine lp_use (x := (x2, 0)) (P := fun x => V X 0 0 Q 26 [some (vr (xG X) th), some (vi x1), some (vi x.1), some (vi x3), some (vi x.2)] [] M) (PE := fun z_6 => V X 0 0 Q 66 [some (vr (xG X) th), some (vi x1), some (vi z_6), some (vi x3), none] [] M) (PR := fun q => Q = Qn X (some (vi q)) M) h (fun x o hh hP hE hR => ts_X1_itemsOfAll_26 hX h0 x1 x3 M x.1 x.2 o hh hP hE hR) (fun z_6 h => ?_) (fun q h => ?_)
      · show V X 0 0 Q 66 [some (vr (xG X) th), some (vi x1), some (vi z_6), some (vi x3), none] [] M
        exact x_weak [true, true, true, true, false] rfl (tj_X1_itemsOfAll_66_4 hX h0 x1 z_6 x3 M o h hP hE hR)
      · exact hR q (Option.some.inj h).symm
  · replace h := (if_neg hc).symm.trans h
    exact x_weak [false, false, true, false, false] rfl (hE x2 (Option.some.inj h).symm)
set_option maxRecDepth 100000 in
set_option maxHeartbeats 4000000 in
theorem c_X1_itemsOfAll {l : Launch} {G : Gx} (hG : GOK G) (hl : l.stackTraces = false) {th : Nat} (h0 : at_ G th 11 0) (x1 : Int) (M : Mem) (r : Int) (h : f_X1_itemsOfAll th x1 M = some r) : Cn l G mX1_itemsOfAll 1 [vr G th, vi x1] M (some (vi r)) M := by
  refine Cn_of2 (ls := [some (vr G th), some (vi x1), none, none, none]) hG hl kX1_itemsOfAll rfl (Nat.le_of_ble_eq_true rfl) rfl rfl rfl rfl rfl (fun X eG el hX => ?_)
  subst eG; subst el
  unfold f_X1_itemsOfAll at h
  refine x_iconst hX dX1_itemsOfAll_0 ?_
  refine x_istoren (ls' := [some (vr (xG X) th), some (vi x1), some (vi 0), none, none]) hX dX1_itemsOfAll_1 rfl rfl rfl ?_
  refine x_iconst hX dX1_itemsOfAll_2 ?_
  refine x_istoren (ls' := [some (vr (xG X) th), some (vi x1), some (vi 0), some (vi 0), none]) hX dX1_itemsOfAll_3 rfl rfl rfl ?_
  refine x_weak (ls' := [some (vr (xG X) th), some (vi x1), some (vi 0), some (vi 0), none]) [true, true, true, true, false] rfl ?_
  refine lp_use (x := (0, 0)) (P := fun x => V X 0 0 (Qn X (some (vi r)) M) 4 [some (vr (xG X) th), some (vi x1), some (vi x.1), some (vi x.2), none] [] M) (PE := fun z_7 => V X 0 0 (Qn X (some (vi r)) M) 72 [none, none, some (vi z_7), none, none] [] M) (PR := fun q => (Qn X (some (vi r)) M) = Qn X (some (vi q)) M) h (fun x o hh hP hE hR => ts_X1_itemsOfAll_4 hX h0 x1 M x.1 x.2 o hh hP hE hR) (fun z_7 h => ?_) (fun q h => ?_)
  · show V X 0 0 (Qn X (some (vi r)) M) 72 [none, none, some (vi z_7), none, none] [] M
    refine x_iloadn hX dX1_itemsOfAll_72 rfl ?_
    cases h
    exact x_iret hX dX1_itemsOfAll_73 rfl
  · cases h; rfl
set_option maxRecDepth 100000 in
set_option maxHeartbeats 4000000 in
theorem tj_X1_canBeBatched_57_2 {X : Cxt} (hX : Gd X RX1 cX1_canBeBatched 4 (some .boolean) 1) {th : Nat} (h0 : at_ (xG X) th 11 0)  (x1 : Int) (x2 : Int) (M : Mem) {Q : State → Prop} (o : (Int) ⊕ ((Unit) ⊕ (Int))) (h : j_X1_canBeBatched_57_2 th x1 x2 M = some o) (hP : ∀ y, o = .inl y → V X 0 0 Q 2 [some (vr (xG X) th), some (vi x1), some (vi y), none] [] M) (hE : ∀ z, o = .inr (.inl z) → V X 0 0 Q 63 [none, none, none, none] [] M) (hR : ∀ q, o = .inr (.inr q) → Q = Qn X (some (vi q)) M) : V X 0 0 Q 57 [some (vr (xG X) th), some (vi x1), some (vi x2), none] [] M := by
  unfold j_X1_canBeBatched_57_2 at h
  obtain ⟨x2_3, ex2_3, h⟩ := bnd_of h
  refine x_iinc (ls' := [some (vr (xG X) th), some (vi x1), some (vi x2_3), none]) hX dX1_canBeBatched_57 rfl rfl ex2_3 rfl ?_
  refine x_goto (tgt := 2) hX dX1_canBeBatched_60 (by decide) ?_
  exact x_weak [true, true, true, false] rfl (hP x2_3 (Option.some.inj h).symm)
set_option maxRecDepth 100000 in
set_option maxHeartbeats 4000000 in
theorem tj_X1_canBeBatched_42_2 {X : Cxt} (hX : Gd X RX1 cX1_canBeBatched 4 (some .boolean) 1) {th : Nat} (h0 : at_ (xG X) th 11 0)  (x1 : Int) (x2 : Int) (y0 : Int) (M : Mem) {Q : State → Prop} (o : (Int) ⊕ ((Unit) ⊕ (Int))) (h : j_X1_canBeBatched_42_2 th x1 x2 y0 M = some o) (hP : ∀ y, o = .inl y → V X 0 0 Q 2 [some (vr (xG X) th), some (vi x1), some (vi y), none] [] M) (hE : ∀ z, o = .inr (.inl z) → V X 0 0 Q 63 [none, none, none, none] [] M) (hR : ∀ q, o = .inr (.inr q) → Q = Qn X (some (vi q)) M) : V X 0 0 Q 42 [some (vr (xG X) th), some (vi x1), some (vi x2), none] [vi y0] M := by
  unfold j_X1_canBeBatched_42_2 at h
  refine x_istoren (ls' := [some (vr (xG X) th), some (vi x1), some (vi x2), some (vi y0)]) hX dX1_canBeBatched_42 rfl rfl rfl ?_
  refine x_iloadn hX dX1_canBeBatched_43 rfl ?_
  refine x_iloadn hX dX1_canBeBatched_44 rfl ?_
  refine x_ishr hX dX1_canBeBatched_45 ?_
  refine x_iconst hX dX1_canBeBatched_46 ?_
  refine x_iand hX dX1_canBeBatched_47 ?_
  refine x_if_eq (tgt := 57) hX dX1_canBeBatched_48 (by decide) rfl (fun hc => ?_) (fun hc => ?_)
  · replace h := (if_pos hc).symm.trans h
    exact x_weak [true, true, true, false] rfl (tj_X1_canBeBatched_57_2 hX h0 x1 x2 M o h hP hE hR)
  · replace h := (if_neg hc).symm.trans h
    refine x_iloadn hX dX1_canBeBatched_51 rfl ?_
    refine x_if_ne (tgt := 57) hX dX1_canBeBatched_52 (by decide) rfl (fun hc => ?_) (fun hc => ?_)
    · replace h := (if_pos hc).symm.trans h
      refine x_iconst hX dX1_canBeBatched_55 ?_
      exact x_qeq (hR 0 (Option.some.inj h).symm) (x_zret hX dX1_canBeBatched_56 (Or.inl cw_0) rfl)
    · replace h := (if_neg hc).symm.trans h
      exact x_weak [true, true, true, false] rfl (tj_X1_canBeBatched_57_2 hX h0 x1 x2 M o h hP hE hR)
set_option maxRecDepth 100000 in
set_option maxHeartbeats 4000000 in
theorem tj_X1_canBeBatched_41_2 {X : Cxt} (hX : Gd X RX1 cX1_canBeBatched 4 (some .boolean) 1) {th : Nat} (h0 : at_ (xG X) th 11 0)  (x1 : Int) (x2 : Int) (M : Mem) {Q : State → Prop} (o : (Int) ⊕ ((Unit) ⊕ (Int))) (h : j_X1_canBeBatched_41_2 th x1 x2 M = some o) (hP : ∀ y, o = .inl y → V X 0 0 Q 2 [some (vr (xG X) th), some (vi x1), some (vi y), none] [] M) (hE : ∀ z, o = .inr (.inl z) → V X 0 0 Q 63 [none, none, none, none] [] M) (hR : ∀ q, o = .inr (.inr q) → Q = Qn X (some (vi q)) M) : V X 0 0 Q 41 [some (vr (xG X) th), some (vi x1), some (vi x2), none] [] M := by
  unfold j_X1_canBeBatched_41_2 at h
  refine x_iconst hX dX1_canBeBatched_41 ?_
  exact x_weak [true, true, true, false] rfl (tj_X1_canBeBatched_42_2 hX h0 x1 x2 0 M o h hP hE hR)
set_option maxRecDepth 100000 in
set_option maxHeartbeats 4000000 in
theorem ts_X1_canBeBatched_2 {X : Cxt} (hX : Gd X RX1 cX1_canBeBatched 4 (some .boolean) 1) {th : Nat} (h0 : at_ (xG X) th 11 0) (x1 : Int) (M : Mem) (x2 : Int) {Q : State → Prop} (o : (Int) ⊕ ((Unit) ⊕ (Int))) (h : s_X1_canBeBatched_2 th x1 M x2 = some o) (hP : ∀ y, o = .inl y → V X 0 0 Q 2 [some (vr (xG X) th), some (vi x1), some (vi y), none] [] M) (hE : ∀ z, o = .inr (.inl z) → V X 0 0 Q 63 [none, none, none, none] [] M) (hR : ∀ q, o = .inr (.inr q) → Q = Qn X (some (vi q)) M) : V X 0 0 Q 2 [some (vr (xG X) th), some (vi x1), some (vi x2), none] [] M := by
  unfold s_X1_canBeBatched_2 at h
  refine x_iloadn hX dX1_canBeBatched_2 rfl ?_
  refine x_aloadn hX dX1_canBeBatched_3 rfl ?_
  refine x_getRj (j := th + 9) hX dX1_canBeBatched_4 fl_X1_28 rfl h0 rfl ?_
  refine x_getI hX dX1_canBeBatched_7 fl_X1_46 rfl (fo_1_2 (gk hX) h0) ?_
  refine x_icmp_ge (tgt := 63) hX dX1_canBeBatched_10 (by decide) rfl rfl (fun hc => ?_) (fun hc => ?_)
  · replace h := (if_pos hc).symm.trans h
    refine x_aloadn hX dX1_canBeBatched_13 rfl ?_
    refine x_getRj (j := th + 9) hX dX1_canBeBatched_14 fl_X1_28 rfl h0 rfl ?_
    refine x_getRj (j := th + 9 + 2) hX dX1_canBeBatched_17 fl_X1_84 rfl (fo_1_2 (gk hX) h0) rfl ?_
    refine x_iloadn hX dX1_canBeBatched_20 rfl ?_
    obtain ⟨b_1, h⟩ := gi_of h
    refine x_iald hX dX1_canBeBatched_21 (fo_5_3 (gk hX) (fo_1_2 (gk hX) h0)) b_1 rfl ?_
    refine x_if_ne (tgt := 41) hX dX1_canBeBatched_22 (by decide) rfl (fun hc => ?_) (fun hc => ?_)
    · replace h := (if_pos hc).symm.trans h
      refine x_aloadn hX dX1_canBeBatched_25 rfl ?_
      refine x_getRj (j := th + 9) hX dX1_canBeBatched_26 fl_X1_28 rfl h0 rfl ?_
      refine x_getRj (j := th + 9 + 3) hX dX1_canBeBatched_29 fl_X1_64 rfl (fo_1_2 (gk hX) h0) rfl ?_
      refine x_iloadn hX dX1_canBeBatched_32 rfl ?_
      obtain ⟨b_2, h⟩ := gi_of h
      refine x_iald hX dX1_canBeBatched_33 (fo_5_4 (gk hX) (fo_1_2 (gk hX) h0)) b_2 rfl ?_
      refine x_if_le (tgt := 41) hX dX1_canBeBatched_34 (by decide) rfl (fun hc => ?_) (fun hc => ?_)
      · replace h := (if_pos hc).symm.trans h
        refine x_iconst hX dX1_canBeBatched_37 ?_
        refine x_goto (tgt := 42) hX dX1_canBeBatched_38 (by decide) ?_
        exact x_weak [true, true, true, false] rfl (tj_X1_canBeBatched_42_2 hX h0 x1 x2 1 M o h hP hE hR)
      · replace h := (if_neg hc).symm.trans h
        exact x_weak [true, true, true, false] rfl (tj_X1_canBeBatched_41_2 hX h0 x1 x2 M o h hP hE hR)
    · replace h := (if_neg hc).symm.trans h
      exact x_weak [true, true, true, false] rfl (tj_X1_canBeBatched_41_2 hX h0 x1 x2 M o h hP hE hR)
  · replace h := (if_neg hc).symm.trans h
    exact x_weak [false, false, false, false] rfl (hE () (Option.some.inj h).symm)
set_option maxRecDepth 100000 in
set_option maxHeartbeats 4000000 in
theorem c_X1_canBeBatched {l : Launch} {G : Gx} (hG : GOK G) (hl : l.stackTraces = false) {th : Nat} (h0 : at_ G th 11 0) (x1 : Int) (M : Mem) (r : Int) (h : f_X1_canBeBatched th x1 M = some r) : Cn l G mX1_canBeBatched 1 [vr G th, vi x1] M (some (vi r)) M := by
  refine Cn_of2 (ls := [some (vr G th), some (vi x1), none, none]) hG hl kX1_canBeBatched rfl (Nat.le_of_ble_eq_true rfl) rfl rfl rfl rfl rfl (fun X eG el hX => ?_)
  subst eG; subst el
  unfold f_X1_canBeBatched at h
  refine x_iconst hX dX1_canBeBatched_0 ?_
  refine x_istoren (ls' := [some (vr (xG X) th), some (vi x1), some (vi 0), none]) hX dX1_canBeBatched_1 rfl rfl rfl ?_
  refine x_weak (ls' := [some (vr (xG X) th), some (vi x1), some (vi 0), none]) [true, true, true, false] rfl ?_
  refine lp_use (x := 0) (P := fun x => V X 0 0 (Qn X (some (vi r)) M) 2 [some (vr (xG X) th), some (vi x1), some (vi x), none] [] M) (PE := fun z_4 => V X 0 0 (Qn X (some (vi r)) M) 63 [none, none, none, none] [] M) (PR := fun q => (Qn X (some (vi r)) M) = Qn X (some (vi q)) M) h (fun x o hh hP hE hR => ts_X1_canBeBatched_2 hX h0 x1 M x o hh hP hE hR) (fun z_4 h => ?_) (fun q h => ?_)
  · show V X 0 0 (Qn X (some (vi r)) M) 63 [none, none, none, none] [] M
    refine x_iconst hX dX1_canBeBatched_63 ?_
    cases h
    exact x_zret hX dX1_canBeBatched_64 (Or.inr cw_1) rfl
  · cases h; rfl
set_option maxRecDepth 100000 in
set_option maxHeartbeats 4000000 in
theorem tj_X1_earliestDue_47_6 {X : Cxt} (hX : Gd X RX1 cX1_earliestDue 4 (some .int) 1) {th : Nat} (h0 : at_ (xG X) th 11 0)  (x1 : Int) (x2 : Int) (x3 : Int) (M : Mem) {Q : State → Prop} (o : (Int × Int) ⊕ ((Int) ⊕ (Int))) (h : j_X1_earliestDue_47_6 th x1 x2 x3 M = some o) (hP : ∀ y, o = .inl y → V X 0 0 Q 6 [some (vr (xG X) th), some (vi x1), some (vi y.1), some (vi y.2)] [] M) (hE : ∀ z, o = .inr (.inl z) → V X 0 0 Q 53 [none, none, some (vi z), none] [] M) (hR : ∀ q, o = .inr (.inr q) → Q = Qn X (some (vi q)) M) : V X 0 0 Q 47 [some (vr (xG X) th), some (vi x1), some (vi x2), some (vi x3)] [] M := by
  unfold j_X1_earliestDue_47_6 at h
  obtain ⟨x3_2, ex3_2, h⟩ := bnd_of h
  refine x_iinc (ls' := [some (vr (xG X) th), some (vi x1), some (vi x2), some (vi x3_2)]) hX dX1_earliestDue_47 rfl rfl ex3_2 rfl ?_
  refine x_goto (tgt := 6) hX dX1_earliestDue_50 (by decide) ?_
  exact x_weak [true, true, true, true] rfl (hP (x2, x3_2) (Option.some.inj h).symm)
set_option maxRecDepth 100000 in
set_option maxHeartbeats 4000000 in
theorem ts_X1_earliestDue_6 {X : Cxt} (hX : Gd X RX1 cX1_earliestDue 4 (some .int) 1) {th : Nat} (h0 : at_ (xG X) th 11 0) (x1 : Int) (M : Mem) (x2 : Int) (x3 : Int) {Q : State → Prop} (o : (Int × Int) ⊕ ((Int) ⊕ (Int))) (h : s_X1_earliestDue_6 th x1 M x2 x3 = some o) (hP : ∀ y, o = .inl y → V X 0 0 Q 6 [some (vr (xG X) th), some (vi x1), some (vi y.1), some (vi y.2)] [] M) (hE : ∀ z, o = .inr (.inl z) → V X 0 0 Q 53 [none, none, some (vi z), none] [] M) (hR : ∀ q, o = .inr (.inr q) → Q = Qn X (some (vi q)) M) : V X 0 0 Q 6 [some (vr (xG X) th), some (vi x1), some (vi x2), some (vi x3)] [] M := by
  unfold s_X1_earliestDue_6 at h
  refine x_iloadn hX dX1_earliestDue_6 rfl ?_
  refine x_aloadn hX dX1_earliestDue_7 rfl ?_
  refine x_getRj (j := th + 9) hX dX1_earliestDue_8 fl_X1_28 rfl h0 rfl ?_
  refine x_getI hX dX1_earliestDue_11 fl_X1_46 rfl (fo_1_2 (gk hX) h0) ?_
  refine x_icmp_ge (tgt := 53) hX dX1_earliestDue_14 (by decide) rfl rfl (fun hc => ?_) (fun hc => ?_)
  · replace h := (if_pos hc).symm.trans h
    refine x_aloadn hX dX1_earliestDue_17 rfl ?_
    refine x_getRj (j := th + 16) hX dX1_earliestDue_18 fl_X1_35 rfl h0 rfl ?_
    refine x_getRj (j := th + 16 + 1) hX dX1_earliestDue_21 fl_X1_94 rfl (fo_1_3 (gk hX) h0) rfl ?_
    refine x_iloadn hX dX1_earliestDue_24 rfl ?_
    obtain ⟨b_1, h⟩ := gi_of h
    refine x_iald hX dX1_earliestDue_25 (fo_0_1 (gk hX) (fo_1_3 (gk hX) h0)) b_1 rfl ?_
    refine x_iloadn hX dX1_earliestDue_26 rfl ?_
    refine x_ishr hX dX1_earliestDue_27 ?_
    refine x_iconst hX dX1_earliestDue_28 ?_
    refine x_iand hX dX1_earliestDue_29 ?_
    refine x_if_eq (tgt := 47) hX dX1_earliestDue_30 (by decide) rfl (fun hc => ?_) (fun hc => ?_)
    · replace h := (if_pos hc).symm.trans h
      exact x_weak [true, true, true, true] rfl (tj_X1_earliestDue_47_6 hX h0 x1 x2 x3 M o h hP hE hR)
    · replace h := (if_neg hc).symm.trans h
      refine x_iloadn hX dX1_earliestDue_33 rfl ?_
      refine x_aloadn hX dX1_earliestDue_34 rfl ?_
      refine x_getRj (j := th + 9) hX dX1_earliestDue_35 fl_X1_28 rfl h0 rfl ?_
      refine x_getRj (j := th + 9 + 1) hX dX1_earliestDue_38 fl_X1_97 rfl (fo_1_2 (gk hX) h0) rfl ?_
      refine x_iloadn hX dX1_earliestDue_41 rfl ?_
      obtain ⟨b_3, h⟩ := gi_of h
      refine x_iald hX dX1_earliestDue_42 (fo_5_2 (gk hX) (fo_1_2 (gk hX) h0)) b_3 rfl ?_
      refine x_min (st := []) hX dX1_earliestDue_43 minw_X1_100 (Nat.le_of_ble_eq_true rfl) z0 ?_
      obtain ⟨x2_4, ex2_4, h⟩ := bnd_of h
      refine x_istoren (ls' := [some (vr (xG X) th), some (vi x1), some (vi x2_4), some (vi x3)]) hX dX1_earliestDue_46 rfl ex2_4 rfl ?_
      exact x_weak [true, true, true, true] rfl (tj_X1_earliestDue_47_6 hX h0 x1 x2_4 x3 M o h hP hE hR)
  · replace h := (if_neg hc).symm.trans h
    exact x_weak [false, false, true, false] rfl (hE x2 (Option.some.inj h).symm)
set_option maxRecDepth 100000 in
set_option maxHeartbeats 4000000 in
theorem c_X1_earliestDue {l : Launch} {G : Gx} (hG : GOK G) (hl : l.stackTraces = false) {th : Nat} (h0 : at_ G th 11 0) (x1 : Int) (M : Mem) (r : Int) (h : f_X1_earliestDue th x1 M = some r) : Cn l G mX1_earliestDue 1 [vr G th, vi x1] M (some (vi r)) M := by
  refine Cn_of2 (ls := [some (vr G th), some (vi x1), none, none]) hG hl kX1_earliestDue rfl (Nat.le_of_ble_eq_true rfl) rfl rfl rfl rfl rfl (fun X eG el hX => ?_)
  subst eG; subst el
  unfold f_X1_earliestDue at h
  refine x_sipush hX dX1_earliestDue_0 sp_9999 ?_
  refine x_istoren (ls' := [some (vr (xG X) th), some (vi x1), some (vi 9999), none]) hX dX1_earliestDue_3 rfl rfl rfl ?_
  refine x_iconst hX dX1_earliestDue_4 ?_
  refine x_istoren (ls' := [some (vr (xG X) th), some (vi x1), some (vi 9999), some (vi 0)]) hX dX1_earliestDue_5 rfl rfl rfl ?_
  refine x_weak (ls' := [some (vr (xG X) th), some (vi x1), some (vi 9999), some (vi 0)]) [true, true, true, true] rfl ?_
  refine lp_use (x := (9999, 0)) (P := fun x => V X 0 0 (Qn X (some (vi r)) M) 6 [some (vr (xG X) th), some (vi x1), some (vi x.1), some (vi x.2)] [] M) (PE := fun z_5 => V X 0 0 (Qn X (some (vi r)) M) 53 [none, none, some (vi z_5), none] [] M) (PR := fun q => (Qn X (some (vi r)) M) = Qn X (some (vi q)) M) h (fun x o hh hP hE hR => ts_X1_earliestDue_6 hX h0 x1 M x.1 x.2 o hh hP hE hR) (fun z_5 h => ?_) (fun q h => ?_)
  · show V X 0 0 (Qn X (some (vi r)) M) 53 [none, none, some (vi z_5), none] [] M
    refine x_iloadn hX dX1_earliestDue_53 rfl ?_
    cases h
    exact x_iret hX dX1_earliestDue_54 rfl
  · cases h; rfl
set_option maxRecDepth 100000 in
set_option maxHeartbeats 4000000 in
theorem tj_X1_tardinessOf_53_5 {X : Cxt} (hX : Gd X RX1 cX1_tardinessOf 5 (some .int) 1) {th : Nat} (h0 : at_ (xG X) th 11 0)  (x1 : Int) (x2 : Int) (x3 : Int) (x4 : Int) (M : Mem) {Q : State → Prop} (o : (Int × Int) ⊕ ((Int) ⊕ (Int))) (h : j_X1_tardinessOf_53_5 th x1 x2 x3 x4 M = some o) (hP : ∀ y, o = .inl y → V X 0 0 Q 5 [some (vr (xG X) th), some (vi x1), some (vi x2), some (vi y.1), some (vi y.2)] [] M) (hE : ∀ z, o = .inr (.inl z) → V X 0 0 Q 59 [none, none, none, some (vi z), none] [] M) (hR : ∀ q, o = .inr (.inr q) → Q = Qn X (some (vi q)) M) : V X 0 0 Q 53 [some (vr (xG X) th), some (vi x1), some (vi x2), some (vi x3), some (vi x4)] [] M := by
  unfold j_X1_tardinessOf_53_5 at h
  obtain ⟨x4_2, ex4_2, h⟩ := bnd_of h
  refine x_iinc (ls' := [some (vr (xG X) th), some (vi x1), some (vi x2), some (vi x3), some (vi x4_2)]) hX dX1_tardinessOf_53 rfl rfl ex4_2 rfl ?_
  refine x_goto (tgt := 5) hX dX1_tardinessOf_56 (by decide) ?_
  exact x_weak [true, true, true, true, true] rfl (hP (x3, x4_2) (Option.some.inj h).symm)
set_option maxRecDepth 100000 in
set_option maxHeartbeats 4000000 in
theorem ts_X1_tardinessOf_5 {X : Cxt} (hX : Gd X RX1 cX1_tardinessOf 5 (some .int) 1) {th : Nat} (h0 : at_ (xG X) th 11 0) (x1 : Int) (x2 : Int) (M : Mem) (x3 : Int) (x4 : Int) {Q : State → Prop} (o : (Int × Int) ⊕ ((Int) ⊕ (Int))) (h : s_X1_tardinessOf_5 th x1 x2 M x3 x4 = some o) (hP : ∀ y, o = .inl y → V X 0 0 Q 5 [some (vr (xG X) th), some (vi x1), some (vi x2), some (vi y.1), some (vi y.2)] [] M) (hE : ∀ z, o = .inr (.inl z) → V X 0 0 Q 59 [none, none, none, some (vi z), none] [] M) (hR : ∀ q, o = .inr (.inr q) → Q = Qn X (some (vi q)) M) : V X 0 0 Q 5 [some (vr (xG X) th), some (vi x1), some (vi x2), some (vi x3), some (vi x4)] [] M := by
  unfold s_X1_tardinessOf_5 at h
  refine x_iload hX dX1_tardinessOf_5 rfl ?_
  refine x_aloadn hX dX1_tardinessOf_7 rfl ?_
  refine x_getRj (j := th + 9) hX dX1_tardinessOf_8 fl_X1_28 rfl h0 rfl ?_
  refine x_getI hX dX1_tardinessOf_11 fl_X1_46 rfl (fo_1_2 (gk hX) h0) ?_
  refine x_icmp_ge (tgt := 59) hX dX1_tardinessOf_14 (by decide) rfl rfl (fun hc => ?_) (fun hc => ?_)
  · replace h := (if_pos hc).symm.trans h
    refine x_aloadn hX dX1_tardinessOf_17 rfl ?_
    refine x_getRj (j := th + 16) hX dX1_tardinessOf_18 fl_X1_35 rfl h0 rfl ?_
    refine x_getRj (j := th + 16 + 1) hX dX1_tardinessOf_21 fl_X1_94 rfl (fo_1_3 (gk hX) h0) rfl ?_
    refine x_iloadn hX dX1_tardinessOf_24 rfl ?_
    obtain ⟨b_1, h⟩ := gi_of h
    refine x_iald hX dX1_tardinessOf_25 (fo_0_1 (gk hX) (fo_1_3 (gk hX) h0)) b_1 rfl ?_
    refine x_iload hX dX1_tardinessOf_26 rfl ?_
    refine x_ishr hX dX1_tardinessOf_28 ?_
    refine x_iconst hX dX1_tardinessOf_29 ?_
    refine x_iand hX dX1_tardinessOf_30 ?_
    refine x_if_eq (tgt := 53) hX dX1_tardinessOf_31 (by decide) rfl (fun hc => ?_) (fun hc => ?_)
    · replace h := (if_pos hc).symm.trans h
      exact x_weak [true, true, true, true, true] rfl (tj_X1_tardinessOf_53_5 hX h0 x1 x2 x3 x4 M o h hP hE hR)
    · replace h := (if_neg hc).symm.trans h
      refine x_iloadn hX dX1_tardinessOf_34 rfl ?_
      refine x_iconst hX dX1_tardinessOf_35 ?_
      refine x_iloadn hX dX1_tardinessOf_36 rfl ?_
      refine x_aloadn hX dX1_tardinessOf_37 rfl ?_
      refine x_getRj (j := th + 9) hX dX1_tardinessOf_38 fl_X1_28 rfl h0 rfl ?_
      refine x_getRj (j := th + 9 + 1) hX dX1_tardinessOf_41 fl_X1_97 rfl (fo_1_2 (gk hX) h0) rfl ?_
      refine x_iload hX dX1_tardinessOf_44 rfl ?_
      obtain ⟨b_3, h⟩ := gi_of h
      refine x_iald hX dX1_tardinessOf_46 (fo_5_2 (gk hX) (fo_1_2 (gk hX) h0)) b_3 rfl ?_
      refine x_isub hX dX1_tardinessOf_47 ?_
      refine x_max (st := [vi x3]) hX dX1_tardinessOf_48 maxw_X1_106 (Nat.le_of_ble_eq_true rfl) z0 ?_
      refine x_iadd hX dX1_tardinessOf_51 ?_
      obtain ⟨x3_4, ex3_4, h⟩ := bnd_of h
      refine x_istoren (ls' := [some (vr (xG X) th), some (vi x1), some (vi x2), some (vi x3_4), some (vi x4)]) hX dX1_tardinessOf_52 rfl ex3_4 rfl ?_
      exact x_weak [true, true, true, true, true] rfl (tj_X1_tardinessOf_53_5 hX h0 x1 x2 x3_4 x4 M o h hP hE hR)
  · replace h := (if_neg hc).symm.trans h
    exact x_weak [false, false, false, true, false] rfl (hE x3 (Option.some.inj h).symm)
set_option maxRecDepth 100000 in
set_option maxHeartbeats 4000000 in
theorem c_X1_tardinessOf {l : Launch} {G : Gx} (hG : GOK G) (hl : l.stackTraces = false) {th : Nat} (h0 : at_ G th 11 0) (x1 : Int) (x2 : Int) (M : Mem) (r : Int) (h : f_X1_tardinessOf th x1 x2 M = some r) : Cn l G mX1_tardinessOf 1 [vr G th, vi x1, vi x2] M (some (vi r)) M := by
  refine Cn_of2 (ls := [some (vr G th), some (vi x1), some (vi x2), none, none]) hG hl kX1_tardinessOf rfl (Nat.le_of_ble_eq_true rfl) rfl rfl rfl rfl rfl (fun X eG el hX => ?_)
  subst eG; subst el
  unfold f_X1_tardinessOf at h
  refine x_iconst hX dX1_tardinessOf_0 ?_
  refine x_istoren (ls' := [some (vr (xG X) th), some (vi x1), some (vi x2), some (vi 0), none]) hX dX1_tardinessOf_1 rfl rfl rfl ?_
  refine x_iconst hX dX1_tardinessOf_2 ?_
  refine x_istore (ls' := [some (vr (xG X) th), some (vi x1), some (vi x2), some (vi 0), some (vi 0)]) hX dX1_tardinessOf_3 rfl rfl rfl ?_
  refine x_weak (ls' := [some (vr (xG X) th), some (vi x1), some (vi x2), some (vi 0), some (vi 0)]) [true, true, true, true, true] rfl ?_
  refine lp_use (x := (0, 0)) (P := fun x => V X 0 0 (Qn X (some (vi r)) M) 5 [some (vr (xG X) th), some (vi x1), some (vi x2), some (vi x.1), some (vi x.2)] [] M) (PE := fun z_5 => V X 0 0 (Qn X (some (vi r)) M) 59 [none, none, none, some (vi z_5), none] [] M) (PR := fun q => (Qn X (some (vi r)) M) = Qn X (some (vi q)) M) h (fun x o hh hP hE hR => ts_X1_tardinessOf_5 hX h0 x1 x2 M x.1 x.2 o hh hP hE hR) (fun z_5 h => ?_) (fun q h => ?_)
  · show V X 0 0 (Qn X (some (vi r)) M) 59 [none, none, none, some (vi z_5), none] [] M
    refine x_iloadn hX dX1_tardinessOf_59 rfl ?_
    cases h
    exact x_iret hX dX1_tardinessOf_60 rfl
  · cases h; rfl
set_option maxRecDepth 100000 in
set_option maxHeartbeats 4000000 in
theorem ts_X1_serve_4 {X : Cxt} (hX : Gd X RX1 cX1_serve 7 (some .int) 1) {th : Nat} (h0 : at_ (xG X) th 11 0) (x1 : Int) (x2 : Int) (x3 : Int) (M : Mem) {Q : State → Prop} (o : (Int × Int × Mem) ⊕ ((Int × Mem) ⊕ (Int × Mem))) (h : s_X1_serve_4 th x1 x2 x3 M = some o) (hP : ∀ y, o = .inl y → V X 0 0 Q 4 [some (vr (xG X) th), some (vi x1), some (vi y.1), some (vi y.2.1), none, none, none] [] y.2.2) (hE : ∀ z, o = .inr (.inl z) → V X 0 0 Q 100 [none, none, some (vi z.1), none, none, none, none] [] z.2) (hR : ∀ q, o = .inr (.inr q) → Q = Qn X (some (vi q.1)) q.2) : V X 0 0 Q 4 [some (vr (xG X) th), some (vi x1), some (vi x2), some (vi x3), none, none, none] [] M := by
  unfold s_X1_serve_4 at h
  refine x_iloadn hX dX1_serve_4 rfl ?_
  refine x_aloadn hX dX1_serve_5 rfl ?_
  refine x_getRj (j := th + 9) hX dX1_serve_6 fl_X1_28 rfl h0 rfl ?_
  refine x_getRj (j := th + 9 + 3) hX dX1_serve_9 fl_X1_64 rfl (fo_1_2 (gk hX) h0) rfl ?_
  refine x_iloadn hX dX1_serve_12 rfl ?_
  obtain ⟨b_1, h⟩ := gi_of h
  refine x_iald hX dX1_serve_13 (fo_5_4 (gk hX) (fo_1_2 (gk hX) h0)) b_1 rfl ?_
  refine x_icmp_ge (tgt := 100) hX dX1_serve_14 (by decide) rfl rfl (fun hc => ?_) (fun hc => ?_)
  · replace h := (if_pos hc).symm.trans h
    refine x_iloadn hX dX1_serve_17 rfl ?_
    refine x_bipush hX dX1_serve_18 bp_6 ?_
    refine x_imul hX dX1_serve_20 ?_
    refine x_iloadn hX dX1_serve_21 rfl ?_
    refine x_iadd hX dX1_serve_22 ?_
    obtain ⟨x4_2, ex4_2, h⟩ := bnd_of h
    refine x_istore (ls' := [some (vr (xG X) th), some (vi x1), some (vi x2), some (vi x3), some (vi x4_2), none, none]) hX dX1_serve_23 rfl ex4_2 rfl ?_
    refine x_aloadn hX dX1_serve_25 rfl ?_
    refine x_getRj (j := th + 9) hX dX1_serve_26 fl_X1_28 rfl h0 rfl ?_
    refine x_getRj (j := th + 9 + 4) hX dX1_serve_29 fl_X1_74 rfl (fo_1_2 (gk hX) h0) rfl ?_
    refine x_iload hX dX1_serve_32 rfl ?_
    obtain ⟨b_3, h⟩ := gi_of h
    refine x_iald hX dX1_serve_34 (fo_5_5 (gk hX) (fo_1_2 (gk hX) h0)) b_3 rfl ?_
    obtain ⟨x5_4, ex5_4, h⟩ := bnd_of h
    refine x_istore (ls' := [some (vr (xG X) th), some (vi x1), some (vi x2), some (vi x3), some (vi x4_2), some (vi x5_4), none]) hX dX1_serve_35 rfl ex5_4 rfl ?_
    refine x_aloadn hX dX1_serve_37 rfl ?_
    refine x_getRj (j := th + 9) hX dX1_serve_38 fl_X1_28 rfl h0 rfl ?_
    refine x_getRj (j := th + 9 + 5) hX dX1_serve_41 fl_X1_68 rfl (fo_1_2 (gk hX) h0) rfl ?_
    refine x_iload hX dX1_serve_44 rfl ?_
    obtain ⟨b_5, h⟩ := gi_of h
    refine x_iald hX dX1_serve_46 (fo_5_6 (gk hX) (fo_1_2 (gk hX) h0)) b_5 rfl ?_
    refine x_aloadn hX dX1_serve_47 rfl ?_
    refine x_getRj (j := th + 4) hX dX1_serve_48 fl_X1_21 rfl h0 rfl ?_
    refine x_getRj (j := th + 4 + 4) hX dX1_serve_51 fl_X1_116 rfl (fo_1_1 (gk hX) h0) rfl ?_
    refine x_iload hX dX1_serve_54 rfl ?_
    obtain ⟨b_6, h⟩ := gi_of h
    refine x_iald hX dX1_serve_56 (fo_2_4 (gk hX) (fo_1_1 (gk hX) h0)) b_6 rfl ?_
    refine x_min (st := []) hX dX1_serve_57 minw_X1_100 (Nat.le_of_ble_eq_true rfl) z0 ?_
    obtain ⟨x6_7, ex6_7, h⟩ := bnd_of h
    refine x_istore (ls' := [some (vr (xG X) th), some (vi x1), some (vi x2), some (vi x3), some (vi x4_2), some (vi x5_4), some (vi x6_7)]) hX dX1_serve_60 rfl ex6_7 rfl ?_
    refine x_aloadn hX dX1_serve_62 rfl ?_
    refine x_getRj (j := th + 4) hX dX1_serve_63 fl_X1_21 rfl h0 rfl ?_
    refine x_getRj (j := th + 4 + 4) hX dX1_serve_66 fl_X1_116 rfl (fo_1_1 (gk hX) h0) rfl ?_
    refine x_iload hX dX1_serve_69 rfl ?_
    refine x_dup2 hX dX1_serve_71 rfl rfl ?_
    obtain ⟨b_8, h⟩ := gi_of h
    refine x_iald hX dX1_serve_72 (fo_2_4 (gk hX) (fo_1_1 (gk hX) h0)) b_8 rfl ?_
    refine x_iload hX dX1_serve_73 rfl ?_
    refine x_isub hX dX1_serve_75 ?_
    obtain ⟨b_10, h⟩ := gi_of h
    obtain ⟨M_9, eM_9, h⟩ := bnd_of h
    refine x_iast hX dX1_serve_76 (fo_2_4 (gk hX) (fo_1_1 (gk hX) h0)) b_10 rfl (x_meq eM_9 ?_)
    refine x_aloadn hX dX1_serve_77 rfl ?_
    refine x_getRj (j := th + 9) hX dX1_serve_78 fl_X1_28 rfl h0 rfl ?_
    refine x_getRj (j := th + 9 + 6) hX dX1_serve_81 fl_X1_119 rfl (fo_1_2 (gk hX) h0) rfl ?_
    refine x_iload hX dX1_serve_84 rfl ?_
    refine x_iload hX dX1_serve_86 rfl ?_
    obtain ⟨b_12, h⟩ := gi_of h
    obtain ⟨M_11, eM_11, h⟩ := bnd_of h
    refine x_iast hX dX1_serve_88 (fo_5_7 (gk hX) (fo_1_2 (gk hX) h0)) b_12 rfl (x_meq eM_11 ?_)
    refine x_iloadn hX dX1_serve_89 rfl ?_
    refine x_iload hX dX1_serve_90 rfl ?_
    refine x_iadd hX dX1_serve_92 ?_
    obtain ⟨x2_13, ex2_13, h⟩ := bnd_of h
    refine x_istoren (ls' := [some (vr (xG X) th), some (vi x1), some (vi x2_13), some (vi x3), some (vi x4_2), some (vi x5_4), some (vi x6_7)]) hX dX1_serve_93 rfl ex2_13 rfl ?_
    obtain ⟨x3_14, ex3_14, h⟩ := bnd_of h
    refine x_iinc (ls' := [some (vr (xG X) th), some (vi x1), some (vi x2_13), some (vi x3_14), some (vi x4_2), some (vi x5_4), some (vi x6_7)]) hX dX1_serve_94 rfl rfl ex3_14 rfl ?_
    refine x_goto (tgt := 4) hX dX1_serve_97 (by decide) ?_
    exact x_weak [true, true, true, true, false, false, false] rfl (hP (x2_13, x3_14, M_11) (Option.some.inj h).symm)
  · replace h := (if_neg hc).symm.trans h
    exact x_weak [false, false, true, false, false, false, false] rfl (hE (x2, M) (Option.some.inj h).symm)
set_option maxRecDepth 100000 in
set_option maxHeartbeats 4000000 in
theorem c_X1_serve {l : Launch} {G : Gx} (hG : GOK G) (hl : l.stackTraces = false) {th : Nat} (h0 : at_ G th 11 0) (x1 : Int) (M : Mem) (r : Int) (Mr : Mem) (h : f_X1_serve th x1 M = some (r, Mr)) : Cn l G mX1_serve 1 [vr G th, vi x1] M (some (vi r)) Mr := by
  refine Cn_of2 (ls := [some (vr G th), some (vi x1), none, none, none, none, none]) hG hl kX1_serve rfl (Nat.le_of_ble_eq_true rfl) rfl rfl rfl rfl rfl (fun X eG el hX => ?_)
  subst eG; subst el
  unfold f_X1_serve at h
  refine x_iconst hX dX1_serve_0 ?_
  refine x_istoren (ls' := [some (vr (xG X) th), some (vi x1), some (vi 0), none, none, none, none]) hX dX1_serve_1 rfl rfl rfl ?_
  refine x_iconst hX dX1_serve_2 ?_
  refine x_istoren (ls' := [some (vr (xG X) th), some (vi x1), some (vi 0), some (vi 0), none, none, none]) hX dX1_serve_3 rfl rfl rfl ?_
  refine x_weak (ls' := [some (vr (xG X) th), some (vi x1), some (vi 0), some (vi 0), none, none, none]) [true, true, true, true, false, false, false] rfl ?_
  refine lp_use (x := (0, 0, M)) (P := fun x => V X 0 0 (Qn X (some (vi r)) Mr) 4 [some (vr (xG X) th), some (vi x1), some (vi x.1), some (vi x.2.1), none, none, none] [] x.2.2) (PE := fun z_15 => V X 0 0 (Qn X (some (vi r)) Mr) 100 [none, none, some (vi z_15.1), none, none, none, none] [] z_15.2) (PR := fun q => (Qn X (some (vi r)) Mr) = Qn X (some (vi q.1)) q.2) h (fun x o hh hP hE hR => ts_X1_serve_4 hX h0 x1 x.1 x.2.1 x.2.2 o hh hP hE hR) (fun z_15 h => ?_) (fun q h => ?_)
  · show V X 0 0 (Qn X (some (vi r)) Mr) 100 [none, none, some (vi z_15.1), none, none, none, none] [] z_15.2
    refine x_iloadn hX dX1_serve_100 rfl ?_
    cases h
    exact x_iret hX dX1_serve_101 rfl
  · cases h; rfl
set_option maxRecDepth 100000 in
set_option maxHeartbeats 4000000 in
theorem c_X2_append {l : Launch} {G : Gx} (hG : GOK G) (hl : l.stackTraces = false) {th : Nat} (h0 : at_ G th 12 0) (x1 : Int) (x2 : Int) (x3 : Int) (x4 : Int) (M : Mem) (r : Int) (Mr : Mem) (h : f_X2_append th x1 x2 x3 x4 M = some (r, Mr)) : Cn l G mX2_append 1 [vr G th, vi x1, vi x2, vi x3, vi x4] M (some (vi r)) Mr := by
  refine Cn_of2 (ls := [some (vr G th), some (vi x1), some (vi x2), some (vi x3), some (vi x4), none]) hG hl kX2_append rfl (Nat.le_of_ble_eq_true rfl) rfl rfl rfl rfl rfl (fun X eG el hX => ?_)
  subst eG; subst el
  unfold f_X2_append at h
  refine x_aloadn hX dX2_append_0 rfl ?_
  refine x_getI hX dX2_append_1 fl_X2_24 rfl h0 ?_
  obtain ⟨x5_1, ex5_1, h⟩ := bnd_of h
  refine x_istore (ls' := [some (vr (xG X) th), some (vi x1), some (vi x2), some (vi x3), some (vi x4), some (vi x5_1)]) hX dX2_append_4 rfl ex5_1 rfl ?_
  refine x_aloadn hX dX2_append_6 rfl ?_
  refine x_getRj (j := th + 1) hX dX2_append_7 fl_X2_9 rfl h0 rfl ?_
  refine x_iload hX dX2_append_10 rfl ?_
  refine x_iloadn hX dX2_append_12 rfl ?_
  obtain ⟨b_3, h⟩ := gi_of h
  obtain ⟨M_2, eM_2, h⟩ := bnd_of h
  refine x_iast hX dX2_append_13 (fo_2_1 (gk hX) h0) b_3 rfl (x_meq eM_2 ?_)
  refine x_aloadn hX dX2_append_14 rfl ?_
  refine x_getRj (j := th + 2) hX dX2_append_15 fl_X2_15 rfl h0 rfl ?_
  refine x_iload hX dX2_append_18 rfl ?_
  refine x_iloadn hX dX2_append_20 rfl ?_
  obtain ⟨b_5, h⟩ := gi_of h
  obtain ⟨M_4, eM_4, h⟩ := bnd_of h
  refine x_iast hX dX2_append_21 (fo_2_2 (gk hX) h0) b_5 rfl (x_meq eM_4 ?_)
  refine x_aloadn hX dX2_append_22 rfl ?_
  refine x_getRj (j := th + 3) hX dX2_append_23 fl_X2_18 rfl h0 rfl ?_
  refine x_iload hX dX2_append_26 rfl ?_
  refine x_iloadn hX dX2_append_28 rfl ?_
  obtain ⟨b_7, h⟩ := gi_of h
  obtain ⟨M_6, eM_6, h⟩ := bnd_of h
  refine x_iast hX dX2_append_29 (fo_2_3 (gk hX) h0) b_7 rfl (x_meq eM_6 ?_)
  refine x_aloadn hX dX2_append_30 rfl ?_
  refine x_getRj (j := th + 4) hX dX2_append_31 fl_X2_21 rfl h0 rfl ?_
  refine x_iload hX dX2_append_34 rfl ?_
  refine x_iload hX dX2_append_36 rfl ?_
  obtain ⟨b_9, h⟩ := gi_of h
  obtain ⟨M_8, eM_8, h⟩ := bnd_of h
  refine x_iast hX dX2_append_38 (fo_2_4 (gk hX) h0) b_9 rfl (x_meq eM_8 ?_)
  refine x_aloadn hX dX2_append_39 rfl ?_
  refine x_dup hX dX2_append_40 rfl ?_
  refine x_getI hX dX2_append_41 fl_X2_24 rfl h0 ?_
  refine x_iconst hX dX2_append_44 ?_
  refine x_iadd hX dX2_append_45 ?_
  obtain ⟨M_10, eM_10, h⟩ := bnd_of h
  refine x_putI hX dX2_append_46 fp_X2_24 rfl h0 (x_meq eM_10 ?_)
  refine x_iload hX dX2_append_49 rfl ?_
  cases h
  exact x_iret hX dX2_append_51 rfl
