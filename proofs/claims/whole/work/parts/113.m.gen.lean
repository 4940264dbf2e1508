-- written by wip/gen/emit.py: X12_setZones, X12_setBuffer, X12_setTimes, X12_stopsAt, X12_whenRoom, X12_completes, X12_batchedMany, X12_goesOn, X12_picks, X12_truncateText, X12_isSmall, X12_isDigit, X12_save, X12_restore
set_option maxRecDepth 100000 in
set_option maxHeartbeats 4000000 in
theorem tj_X12_setZones_73 {X : Cxt} (hX : Gd X RX12 cX12_setZones 4 (some .int) 2) (hs : SOK (xG X))   (x1 : Int) (x2 : Int) (y1 : Int) (M : Mem) (r : Int) (Mr : Mem) (h : j_X12_setZones_73 x1 x2 y1 M = some (r, Mr)) : V X 0 0 (Qn X (some (vi r)) Mr) 73 [some (vr (xG X) 139), some (vi x1), some (vi x2), none] [vi y1, vr (xG X) 139] M := by
  unfold j_X12_setZones_73 at h
  obtain ⟨M_1, eM_1, h⟩ := bnd_of h
  refine x_putI hX dX12_setZones_73 fp_X12_70 rfl (st139 hs) (x_meq eM_1 ?_)
  refine x_aloadn hX dX12_setZones_76 rfl ?_
  refine x_getI hX dX12_setZones_77 fl_X12_70 rfl (st139 hs) ?_
  refine x_if_le (tgt := 85) hX dX12_setZones_80 (by decide) rfl (fun hc => ?_) (fun hc => ?_)
  · replace h := (if_pos hc).symm.trans h
    refine x_iconst hX dX12_setZones_83 ?_
    cases h
    exact x_iret hX dX12_setZones_84 rfl
  · replace h := (if_neg hc).symm.trans h
    refine x_aloadn hX dX12_setZones_85 rfl ?_
    refine x_getRj (j := 140) hX dX12_setZones_86 fl_X12_7 rfl (st139 hs) rfl ?_
    refine x_bipush hX dX12_setZones_89 bp_7 ?_
    refine x_iloadn hX dX12_setZones_91 rfl ?_
    obtain ⟨M_2, eM_2, h⟩ := bnd_of h
    refine x_iast hX dX12_setZones_92 (st140 hs) inc_7_469 ixc_7 (x_meq eM_2 ?_)
    refine x_aloadn hX dX12_setZones_93 rfl ?_
    refine x_getRj (j := 140) hX dX12_setZones_94 fl_X12_7 rfl (st139 hs) rfl ?_
    refine x_bipush hX dX12_setZones_97 bp_8 ?_
    refine x_iloadn hX dX12_setZones_99 rfl ?_
    obtain ⟨M_3, eM_3, h⟩ := bnd_of h
    refine x_iast hX dX12_setZones_100 (st140 hs) inc_8_469 ixc_8 (x_meq eM_3 ?_)
    refine x_aloadn hX dX12_setZones_101 rfl ?_
    obtain ⟨r_4, er_4, h⟩ := cl1_of h
    refine x_callVi (t := 11) (As := []) (rest := []) hX dX12_setZones_102 (c_X12_zones (gk hX) (gl hX) hs M_3 _ er_4) kX12_zones vX12_zones w_1971 (st139 hs) rfl rfl rfl rfl (Nat.le_of_ble_eq_true rfl) z0 ?_
    cases h
    exact x_iret hX dX12_setZones_105 rfl
set_option maxRecDepth 100000 in
set_option maxHeartbeats 4000000 in
theorem tj_X12_setZones_62 {X : Cxt} (hX : Gd X RX12 cX12_setZones 4 (some .int) 2) (hs : SOK (xG X))   (x1 : Int) (x2 : Int) (y0 : Int) (M : Mem) (r : Int) (Mr : Mem) (h : j_X12_setZones_62 x1 x2 y0 M = some (r, Mr)) : V X 0 0 (Qn X (some (vi r)) Mr) 62 [some (vr (xG X) 139), some (vi x1), some (vi x2), none] [vi y0] M := by
  unfold j_X12_setZones_62 at h
  refine x_istoren (ls' := [some (vr (xG X) 139), some (vi x1), some (vi x2), some (vi y0)]) hX dX12_setZones_62 rfl rfl rfl ?_
  refine x_aloadn hX dX12_setZones_63 rfl ?_
  refine x_iloadn hX dX12_setZones_64 rfl ?_
  refine x_if_eq (tgt := 72) hX dX12_setZones_65 (by decide) rfl (fun hc => ?_) (fun hc => ?_)
  · replace h := (if_pos hc).symm.trans h
    refine x_iconst hX dX12_setZones_72 ?_
    exact x_weak [true, true, true, false] rfl (tj_X12_setZones_73 hX hs x1 x2 1 M r Mr h)
  · replace h := (if_neg hc).symm.trans h
    refine x_iconst hX dX12_setZones_68 ?_
    refine x_goto (tgt := 73) hX dX12_setZones_69 (by decide) ?_
    exact x_weak [true, true, true, false] rfl (tj_X12_setZones_73 hX hs x1 x2 0 M r Mr h)
set_option maxRecDepth 100000 in
set_option maxHeartbeats 4000000 in
theorem tj_X12_setZones_61 {X : Cxt} (hX : Gd X RX12 cX12_setZones 4 (some .int) 2) (hs : SOK (xG X))   (x1 : Int) (x2 : Int) (M : Mem) (r : Int) (Mr : Mem) (h : j_X12_setZones_61 x1 x2 M = some (r, Mr)) : V X 0 0 (Qn X (some (vi r)) Mr) 61 [some (vr (xG X) 139), some (vi x1), some (vi x2), none] [] M := by
  unfold j_X12_setZones_61 at h
  refine x_iconst hX dX12_setZones_61 ?_
  exact x_weak [true, true, true, false] rfl (tj_X12_setZones_62 hX hs x1 x2 0 M r Mr h)
set_option maxRecDepth 100000 in
set_option maxHeartbeats 4000000 in
theorem tj_X12_setZones_57 {X : Cxt} (hX : Gd X RX12 cX12_setZones 4 (some .int) 2) (hs : SOK (xG X))   (x1 : Int) (x2 : Int) (M : Mem) (r : Int) (Mr : Mem) (h : j_X12_setZones_57 x1 x2 M = some (r, Mr)) : V X 0 0 (Qn X (some (vi r)) Mr) 57 [some (vr (xG X) 139), some (vi x1), some (vi x2), none] [] M := by
  unfold j_X12_setZones_57 at h
  refine x_iconst hX dX12_setZones_57 ?_
  refine x_goto (tgt := 62) hX dX12_setZones_58 (by decide) ?_
  exact x_weak [true, true, true, false] rfl (tj_X12_setZones_62 hX hs x1 x2 1 M r Mr h)
set_option maxRecDepth 100000 in
set_option maxHeartbeats 4000000 in
theorem c_X12_setZones {l : Launch} {G : Gx} (hG : GOK G) (hl : l.stackTraces = false) (hs : SOK G)  (x1 : Int) (x2 : Int) (M : Mem) (r : Int) (Mr : Mem) (h : f_X12_setZones x1 x2 M = some (r, Mr)) : Cn l G mX12_setZones 2 [vr G 139, vi x1, vi x2] M (some (vi r)) Mr := by
  refine Cn_of2 (ls := [some (vr G 139), some (vi x1), some (vi x2), none]) hG hl kX12_setZones rfl (Nat.le_of_ble_eq_true rfl) rfl rfl rfl rfl rfl (fun X eG el hX => ?_)
  subst eG; subst el
  unfold f_X12_setZones at h
  refine x_iloadn hX dX12_setZones_0 rfl ?_
  refine x_iconst hX dX12_setZones_1 ?_
  refine x_icmp_ne (tgt := 18) hX dX12_setZones_2 (by decide) rfl cw_m1 (fun hc => ?_) (fun hc => ?_)
  · replace h := (if_pos hc).symm.trans h
    refine x_iloadn hX dX12_setZones_5 rfl ?_
    refine x_iconst hX dX12_setZones_6 ?_
    refine x_icmp_ne (tgt := 14) hX dX12_setZones_7 (by decide) rfl cw_m1 (fun hc => ?_) (fun hc => ?_)
    · replace h := (if_pos hc).symm.trans h
      refine x_iconst hX dX12_setZones_10 ?_
      refine x_goto (tgt := 62) hX dX12_setZones_11 (by decide) ?_
      exact x_weak [true, true, true, false] rfl (tj_X12_setZones_62 hX hs x1 x2 1 M r Mr h)
    · replace h := (if_neg hc).symm.trans h
      refine x_iconst hX dX12_setZones_14 ?_
      refine x_goto (tgt := 62) hX dX12_setZones_15 (by decide) ?_
      exact x_weak [true, true, true, false] rfl (tj_X12_setZones_62 hX hs x1 x2 0 M r Mr h)
  · replace h := (if_neg hc).symm.trans h
    refine x_iloadn hX dX12_setZones_18 rfl ?_
    refine x_iconst hX dX12_setZones_19 ?_
    refine x_aloadn hX dX12_setZones_20 rfl ?_
    refine x_getRj (j := 140) hX dX12_setZones_21 fl_X12_7 rfl (st139 hs) rfl ?_
    refine x_iconst hX dX12_setZones_24 ?_
    refine x_iald hX dX12_setZones_25 (st140 hs) inc_0_469 ixc_0 ?_
    refine x_iconst hX dX12_setZones_26 ?_
    refine x_isub hX dX12_setZones_27 ?_
    obtain ⟨r_6, er_6, h⟩ := cl1_of h
    refine x_callSi (As := [vi x1, vi 1, vi ((M 140 0) - 1)]) (rest := []) hX dX12_setZones_28 (c_X12_in (gk hX) (gl hX) x1 1 ((M 140 0) - 1) M _ er_6) kX12_in sX12_in w_1735 rfl rfl rfl (Nat.le_of_ble_eq_true rfl) z0 ?_
    refine x_if_eq (tgt := 61) hX dX12_setZones_31 (by decide) rfl (fun hc => ?_) (fun hc => ?_)
    · replace h := (if_pos hc).symm.trans h
      exact x_weak [true, true, true, false] rfl (tj_X12_setZones_61 hX hs x1 x2 M r Mr h)
    · replace h := (if_neg hc).symm.trans h
      refine x_iloadn hX dX12_setZones_34 rfl ?_
      refine x_iconst hX dX12_setZones_35 ?_
      refine x_icmp_eq (tgt := 57) hX dX12_setZones_36 (by decide) rfl cw_m1 (fun hc => ?_) (fun hc => ?_)
      · replace h := (if_pos hc).symm.trans h
        exact x_weak [true, true, true, false] rfl (tj_X12_setZones_57 hX hs x1 x2 M r Mr h)
      · replace h := (if_neg hc).symm.trans h
        refine x_iloadn hX dX12_setZones_39 rfl ?_
        refine x_iloadn hX dX12_setZones_40 rfl ?_
        refine x_iconst hX dX12_setZones_41 ?_
        refine x_iadd hX dX12_setZones_42 ?_
        refine x_aloadn hX dX12_setZones_43 rfl ?_
        refine x_getRj (j := 140) hX dX12_setZones_44 fl_X12_7 rfl (st139 hs) rfl ?_
        refine x_iconst hX dX12_setZones_47 ?_
        refine x_iald hX dX12_setZones_48 (st140 hs) inc_0_469 ixc_0 ?_
        refine x_iconst hX dX12_setZones_49 ?_
        refine x_isub hX dX12_setZones_50 ?_
        obtain ⟨r_8, er_8, h⟩ := cl1_of h
        refine x_callSi (As := [vi x2, vi (x1 + 1), vi ((M 140 0) - 1)]) (rest := []) hX dX12_setZones_51 (c_X12_in (gk hX) (gl hX) x2 (x1 + 1) ((M 140 0) - 1) M _ er_8) kX12_in sX12_in w_1735 rfl rfl rfl (Nat.le_of_ble_eq_true rfl) z0 ?_
        refine x_if_eq (tgt := 61) hX dX12_setZones_54 (by decide) rfl (fun hc => ?_) (fun hc => ?_)
        · replace h := (if_pos hc).symm.trans h
          exact x_weak [true, true, true, false] rfl (tj_X12_setZones_61 hX hs x1 x2 M r Mr h)
        · replace h := (if_neg hc).symm.trans h
          exact x_weak [true, true, true, false] rfl (tj_X12_setZones_57 hX hs x1 x2 M r Mr h)
set_option maxRecDepth 100000 in
set_option maxHeartbeats 4000000 in
theorem tj_X12_setBuffer_28 {X : Cxt} (hX : Gd X RX12 cX12_setBuffer 4 (some .int) 2) (hs : SOK (xG X))   (x1 : Int) (x2 : Int) (y1 : Int) (M : Mem) (r : Int) (Mr : Mem) (h : j_X12_setBuffer_28 x1 x2 y1 M = some (r, Mr)) : V X 0 0 (Qn X (some (vi r)) Mr) 28 [some (vr (xG X) 139), some (vi x1), some (vi x2), none] [vi y1, vr (xG X) 139] M := by
  unfold j_X12_setBuffer_28 at h
  obtain ⟨M_3, eM_3, h⟩ := bnd_of h
  refine x_putI hX dX12_setBuffer_28 fp_X12_70 rfl (st139 hs) (x_meq eM_3 ?_)
  refine x_aloadn hX dX12_setBuffer_31 rfl ?_
  refine x_getI hX dX12_setBuffer_32 fl_X12_70 rfl (st139 hs) ?_
  refine x_if_le (tgt := 40) hX dX12_setBuffer_35 (by decide) rfl (fun hc => ?_) (fun hc => ?_)
  · replace h := (if_pos hc).symm.trans h
    refine x_iconst hX dX12_setBuffer_38 ?_
    cases h
    exact x_iret hX dX12_setBuffer_39 rfl
  · replace h := (if_neg hc).symm.trans h
    refine x_aloadn hX dX12_setBuffer_40 rfl ?_
    refine x_getRj (j := 140) hX dX12_setBuffer_41 fl_X12_7 rfl (st139 hs) rfl ?_
    refine x_bipush hX dX12_setBuffer_44 bp_9 ?_
    refine x_iloadn hX dX12_setBuffer_46 rfl ?_
    refine x_iadd hX dX12_setBuffer_47 ?_
    obtain ⟨b_4, h⟩ := gi_of h
    refine x_iald hX dX12_setBuffer_48 (st140 hs) b_4 rfl ?_
    obtain ⟨x3_5, ex3_5, h⟩ := bnd_of h
    refine x_istoren (ls' := [some (vr (xG X) 139), some (vi x1), some (vi x2), some (vi x3_5)]) hX dX12_setBuffer_49 rfl ex3_5 rfl ?_
    refine x_aloadn hX dX12_setBuffer_50 rfl ?_
    refine x_getRj (j := 140) hX dX12_setBuffer_51 fl_X12_7 rfl (st139 hs) rfl ?_
    refine x_bipush hX dX12_setBuffer_54 bp_9 ?_
    refine x_iloadn hX dX12_setBuffer_56 rfl ?_
    refine x_iadd hX dX12_setBuffer_57 ?_
    refine x_iloadn hX dX12_setBuffer_58 rfl ?_
    obtain ⟨b_7, h⟩ := gi_of h
    obtain ⟨M_6, eM_6, h⟩ := bnd_of h
    refine x_iast hX dX12_setBuffer_59 (st140 hs) b_7 rfl (x_meq eM_6 ?_)
    refine x_iloadn hX dX12_setBuffer_60 rfl ?_
    cases h
    exact x_iret hX dX12_setBuffer_61 rfl
set_option maxRecDepth 100000 in
set_option maxHeartbeats 4000000 in
theorem c_X12_setBuffer {l : Launch} {G : Gx} (hG : GOK G) (hl : l.stackTraces = false) (hs : SOK G)  (x1 : Int) (x2 : Int) (M : Mem) (r : Int) (Mr : Mem) (h : f_X12_setBuffer x1 x2 M = some (r, Mr)) : Cn l G mX12_setBuffer 2 [vr G 139, vi x1, vi x2] M (some (vi r)) Mr := by
  refine Cn_of2 (ls := [some (vr G 139), some (vi x1), some (vi x2), none]) hG hl kX12_setBuffer rfl (Nat.le_of_ble_eq_true rfl) rfl rfl rfl rfl rfl (fun X eG el hX => ?_)
  subst eG; subst el
  unfold f_X12_setBuffer at h
  refine x_aloadn hX dX12_setBuffer_0 rfl ?_
  refine x_iloadn hX dX12_setBuffer_1 rfl ?_
  refine x_iconst hX dX12_setBuffer_2 ?_
  refine x_iconst hX dX12_setBuffer_3 ?_
  obtain ⟨r_1, er_1, h⟩ := cl1_of h
  refine x_callSi (As := [vi x1, vi 0, vi 1]) (rest := [vr (xG X) 139]) hX dX12_setBuffer_4 (c_X12_in (gk hX) (gl hX) x1 0 1 M _ er_1) kX12_in sX12_in w_1735 rfl rfl rfl (Nat.le_of_ble_eq_true rfl) z0 ?_
  refine x_if_ne (tgt := 14) hX dX12_setBuffer_7 (by decide) rfl (fun hc => ?_) (fun hc => ?_)
  · replace h := (if_pos hc).symm.trans h
    refine x_iconst hX dX12_setBuffer_10 ?_
    refine x_goto (tgt := 28) hX dX12_setBuffer_11 (by decide) ?_
    exact x_weak [true, true, true, false] rfl (tj_X12_setBuffer_28 hX hs x1 x2 1 M r Mr h)
  · replace h := (if_neg hc).symm.trans h
    refine x_iloadn hX dX12_setBuffer_14 rfl ?_
    refine x_iconst hX dX12_setBuffer_15 ?_
    refine x_iconst hX dX12_setBuffer_16 ?_
    obtain ⟨r_8, er_8, h⟩ := cl1_of h
    refine x_callSi (As := [vi x2, vi 0, vi 4]) (rest := [vr (xG X) 139]) hX dX12_setBuffer_17 (c_X12_in (gk hX) (gl hX) x2 0 4 M _ er_8) kX12_in sX12_in w_1735 rfl rfl rfl (Nat.le_of_ble_eq_true rfl) z0 ?_
    refine x_if_ne (tgt := 27) hX dX12_setBuffer_20 (by decide) rfl (fun hc => ?_) (fun hc => ?_)
    · replace h := (if_pos hc).symm.trans h
      refine x_iconst hX dX12_setBuffer_23 ?_
      refine x_goto (tgt := 28) hX dX12_setBuffer_24 (by decide) ?_
      exact x_weak [true, true, true, false] rfl (tj_X12_setBuffer_28 hX hs x1 x2 2 M r Mr h)
    · replace h := (if_neg hc).symm.trans h
      refine x_iconst hX dX12_setBuffer_27 ?_
      exact x_weak [true, true, true, false] rfl (tj_X12_setBuffer_28 hX hs x1 x2 0 M r Mr h)
set_option maxRecDepth 100000 in
set_option maxHeartbeats 4000000 in
theorem tj_X12_setTimes_26 {X : Cxt} (hX : Gd X RX12 cX12_setTimes 4 (some .int) 2) (hs : SOK (xG X))   (x1 : Int) (x2 : Int) (y1 : Int) (M : Mem) (r : Int) (Mr : Mem) (h : j_X12_setTimes_26 x1 x2 y1 M = some (r, Mr)) : V X 0 0 (Qn X (some (vi r)) Mr) 26 [some (vr (xG X) 139), some (vi x1), some (vi x2), none] [vi y1, vr (xG X) 139] M := by
  unfold j_X12_setTimes_26 at h
  obtain ⟨M_3, eM_3, h⟩ := bnd_of h
  refine x_putI hX dX12_setTimes_26 fp_X12_70 rfl (st139 hs) (x_meq eM_3 ?_)
  refine x_aloadn hX dX12_setTimes_29 rfl ?_
  refine x_getI hX dX12_setTimes_30 fl_X12_70 rfl (st139 hs) ?_
  refine x_if_le (tgt := 38) hX dX12_setTimes_33 (by decide) rfl (fun hc => ?_) (fun hc => ?_)
  · replace h := (if_pos hc).symm.trans h
    refine x_iconst hX dX12_setTimes_36 ?_
    cases h
    exact x_iret hX dX12_setTimes_37 rfl
  · replace h := (if_neg hc).symm.trans h
    refine x_bipush hX dX12_setTimes_38 bp_100 ?_
    refine x_aloadn hX dX12_setTimes_40 rfl ?_
    refine x_getRj (j := 140) hX dX12_setTimes_41 fl_X12_7 rfl (st139 hs) rfl ?_
    refine x_bipush hX dX12_setTimes_44 bp_11 ?_
    refine x_iald hX dX12_setTimes_46 (st140 hs) inc_11_469 ixc_11 ?_
    refine x_imul hX dX12_setTimes_47 ?_
    refine x_aloadn hX dX12_setTimes_48 rfl ?_
    refine x_getRj (j := 140) hX dX12_setTimes_49 fl_X12_7 rfl (st139 hs) rfl ?_
    refine x_bipush hX dX12_setTimes_52 bp_12 ?_
    refine x_iald hX dX12_setTimes_54 (st140 hs) inc_12_469 ixc_12 ?_
    refine x_iadd hX dX12_setTimes_55 ?_
    obtain ⟨x3_4, ex3_4, h⟩ := bnd_of h
    refine x_istoren (ls' := [some (vr (xG X) 139), some (vi x1), some (vi x2), some (vi x3_4)]) hX dX12_setTimes_56 rfl ex3_4 rfl ?_
    refine x_aloadn hX dX12_setTimes_57 rfl ?_
    refine x_getRj (j := 140) hX dX12_setTimes_58 fl_X12_7 rfl (st139 hs) rfl ?_
    refine x_bipush hX dX12_setTimes_61 bp_11 ?_
    refine x_iloadn hX dX12_setTimes_63 rfl ?_
    obtain ⟨M_5, eM_5, h⟩ := bnd_of h
    refine x_iast hX dX12_setTimes_64 (st140 hs) inc_11_469 ixc_11 (x_meq eM_5 ?_)
    refine x_aloadn hX dX12_setTimes_65 rfl ?_
    refine x_getRj (j := 140) hX dX12_setTimes_66 fl_X12_7 rfl (st139 hs) rfl ?_
    refine x_bipush hX dX12_setTimes_69 bp_12 ?_
    refine x_iloadn hX dX12_setTimes_71 rfl ?_
    obtain ⟨M_6, eM_6, h⟩ := bnd_of h
    refine x_iast hX dX12_setTimes_72 (st140 hs) inc_12_469 ixc_12 (x_meq eM_6 ?_)
    refine x_iloadn hX dX12_setTimes_73 rfl ?_
    cases h
    exact x_iret hX dX12_setTimes_74 rfl
set_option maxRecDepth 100000 in
set_option maxHeartbeats 4000000 in
theorem tj_X12_setTimes_25 {X : Cxt} (hX : Gd X RX12 cX12_setTimes 4 (some .int) 2) (hs : SOK (xG X))   (x1 : Int) (x2 : Int) (M : Mem) (r : Int) (Mr : Mem) (h : j_X12_setTimes_25 x1 x2 M = some (r, Mr)) : V X 0 0 (Qn X (some (vi r)) Mr) 25 [some (vr (xG X) 139), some (vi x1), some (vi x2), none] [vr (xG X) 139] M := by
  unfold j_X12_setTimes_25 at h
  refine x_iconst hX dX12_setTimes_25 ?_
  exact x_weak [true, true, true, false] rfl (tj_X12_setTimes_26 hX hs x1 x2 1 M r Mr h)
set_option maxRecDepth 100000 in
set_option maxHeartbeats 4000000 in
theorem c_X12_setTimes {l : Launch} {G : Gx} (hG : GOK G) (hl : l.stackTraces = false) (hs : SOK G)  (x1 : Int) (x2 : Int) (M : Mem) (r : Int) (Mr : Mem) (h : f_X12_setTimes x1 x2 M = some (r, Mr)) : Cn l G mX12_setTimes 2 [vr G 139, vi x1, vi x2] M (some (vi r)) Mr := by
  refine Cn_of2 (ls := [some (vr G 139), some (vi x1), some (vi x2), none]) hG hl kX12_setTimes rfl (Nat.le_of_ble_eq_true rfl) rfl rfl rfl rfl rfl (fun X eG el hX => ?_)
  subst eG; subst el
  unfold f_X12_setTimes at h
  refine x_aloadn hX dX12_setTimes_0 rfl ?_
  refine x_iloadn hX dX12_setTimes_1 rfl ?_
  refine x_iconst hX dX12_setTimes_2 ?_
  refine x_bipush hX dX12_setTimes_3 bp_99 ?_
  obtain ⟨r_1, er_1, h⟩ := cl1_of h
  refine x_callSi (As := [vi x1, vi 0, vi 99]) (rest := [vr (xG X) 139]) hX dX12_setTimes_5 (c_X12_in (gk hX) (gl hX) x1 0 99 M _ er_1) kX12_in sX12_in w_1735 rfl rfl rfl (Nat.le_of_ble_eq_true rfl) z0 ?_
  refine x_if_eq (tgt := 25) hX dX12_setTimes_8 (by decide) rfl (fun hc => ?_) (fun hc => ?_)
  · replace h := (if_pos hc).symm.trans h
    exact x_weak [true, true, true, false] rfl (tj_X12_setTimes_25 hX hs x1 x2 M r Mr h)
  · replace h := (if_neg hc).symm.trans h
    refine x_iloadn hX dX12_setTimes_11 rfl ?_
    refine x_iconst hX dX12_setTimes_12 ?_
    refine x_bipush hX dX12_setTimes_13 bp_99 ?_
    obtain ⟨r_7, er_7, h⟩ := cl1_of h
    refine x_callSi (As := [vi x2, vi 0, vi 99]) (rest := [vr (xG X) 139]) hX dX12_setTimes_15 (c_X12_in (gk hX) (gl hX) x2 0 99 M _ er_7) kX12_in sX12_in w_1735 rfl rfl rfl (Nat.le_of_ble_eq_true rfl) z0 ?_
    refine x_if_eq (tgt := 25) hX dX12_setTimes_18 (by decide) rfl (fun hc => ?_) (fun hc => ?_)
    · replace h := (if_pos hc).symm.trans h
      exact x_weak [true, true, true, false] rfl (tj_X12_setTimes_25 hX hs x1 x2 M r Mr h)
    · replace h := (if_neg hc).symm.trans h
      refine x_iconst hX dX12_setTimes_21 ?_
      refine x_goto (tgt := 26) hX dX12_setTimes_22 (by decide) ?_
      exact x_weak [true, true, true, false] rfl (tj_X12_setTimes_26 hX hs x1 x2 0 M r Mr h)
set_option maxRecDepth 100000 in
set_option maxHeartbeats 4000000 in
theorem tj_X12_stopsAt_61_2 {X : Cxt} (hX : Gd X RX12 cX12_stopsAt 4 (none) 2) (hs : SOK (xG X))   (x1 : Int) (x2 : Int) (x3 : Int) (M : Mem) {Q : State → Prop} (o : (Int × Mem) ⊕ ((Mem) ⊕ (Mem))) (h : j_X12_stopsAt_61_2 x1 x2 x3 M = some o) (hP : ∀ y, o = .inl y → V X 0 0 Q 2 [some (vr (xG X) 139), some (vi x1), some (vi x2), some (vi y.1)] [] y.2) (hE : ∀ z, o = .inr (.inl z) → V X 0 0 Q 67 [none, none, none, none] [] z) (hR : ∀ q, o = .inr (.inr q) → Q = Qn X none q) : V X 0 0 Q 61 [some (vr (xG X) 139), some (vi x1), some (vi x2), some (vi x3)] [] M := by
  unfold j_X12_stopsAt_61_2 at h
  obtain ⟨x3_2, ex3_2, h⟩ := bnd_of h
  refine x_iinc (ls' := [some (vr (xG X) 139), some (vi x1), some (vi x2), some (vi x3_2)]) hX dX12_stopsAt_61 rfl rfl ex3_2 rfl ?_
  refine x_goto (tgt := 2) hX dX12_stopsAt_64 (by decide) ?_
  exact x_weak [true, true, true, true] rfl (hP (x3_2, M) (Option.some.inj h).symm)
set_option maxRecDepth 100000 in
set_option maxHeartbeats 4000000 in
theorem ts_X12_stopsAt_2 {X : Cxt} (hX : Gd X RX12 cX12_stopsAt 4 (none) 2) (hs : SOK (xG X))  (x1 : Int) (x2 : Int) (x3 : Int) (M : Mem) {Q : State → Prop} (o : (Int × Mem) ⊕ ((Mem) ⊕ (Mem))) (h : s_X12_stopsAt_2 x1 x2 x3 M = some o) (hP : ∀ y, o = .inl y → V X 0 0 Q 2 [some (vr (xG X) 139), some (vi x1), some (vi x2), some (vi y.1)] [] y.2) (hE : ∀ z, o = .inr (.inl z) → V X 0 0 Q 67 [none, none, none, none] [] z) (hR : ∀ q, o = .inr (.inr q) → Q = Qn X none q) : V X 0 0 Q 2 [some (vr (xG X) 139), some (vi x1), some (vi x2), some (vi x3)] [] M := by
  unfold s_X12_stopsAt_2 at h
  refine x_iloadn hX dX12_stopsAt_2 rfl ?_
  refine x_aloadn hX dX12_stopsAt_3 rfl ?_
  refine x_getRj (j := 140) hX dX12_stopsAt_4 fl_X12_7 rfl (st139 hs) rfl ?_
  refine x_iconst hX dX12_stopsAt_7 ?_
  refine x_iald hX dX12_stopsAt_8 (st140 hs) inc_3_469 ixc_3 ?_
  refine x_icmp_ge (tgt := 67) hX dX12_stopsAt_9 (by decide) rfl rfl (fun hc => ?_) (fun hc => ?_)
  · replace h := (if_pos hc).symm.trans h
    refine x_aloadn hX dX12_stopsAt_12 rfl ?_
    refine x_getRj (j := 145) hX dX12_stopsAt_13 fl_X12_26 rfl (st139 hs) rfl ?_
    refine x_iloadn hX dX12_stopsAt_16 rfl ?_
    obtain ⟨b_1, h⟩ := gi_of h
    refine x_zald hX dX12_stopsAt_17 (st145 hs) b_1 rfl ?_
    refine x_if_eq (tgt := 61) hX dX12_stopsAt_18 (by decide) rfl (fun hc => ?_) (fun hc => ?_)
    · replace h := (if_pos hc).symm.trans h
      exact x_weak [true, true, true, true] rfl (tj_X12_stopsAt_61_2 hX hs x1 x2 x3 M o h hP hE hR)
    · replace h := (if_neg hc).symm.trans h
      refine x_aloadn hX dX12_stopsAt_21 rfl ?_
      refine x_iloadn hX dX12_stopsAt_22 rfl ?_
      refine x_iconst hX dX12_stopsAt_23 ?_
      obtain ⟨r_3, er_3, h⟩ := cl1_of h
      refine x_callVi (t := 11) (As := [vi x3, vi 0]) (rest := []) hX dX12_stopsAt_24 (c_X12_ofItem (gk hX) (gl hX) hs x3 0 M _ er_3) kX12_ofItem vX12_ofItem w_1770 (st139 hs) rfl rfl rfl rfl (Nat.le_of_ble_eq_true rfl) z0 ?_
      refine x_iloadn hX dX12_stopsAt_27 rfl ?_
      refine x_icmp_ne (tgt := 61) hX dX12_stopsAt_28 (by decide) rfl rfl (fun hc => ?_) (fun hc => ?_)
      · replace h := (if_pos hc).symm.trans h
        refine x_aloadn hX dX12_stopsAt_31 rfl ?_
        refine x_iloadn hX dX12_stopsAt_32 rfl ?_
        refine x_iconst hX dX12_stopsAt_33 ?_
        obtain ⟨r_5, er_5, h⟩ := cl1_of h
        refine x_callVi (t := 11) (As := [vi x3, vi 1]) (rest := []) hX dX12_stopsAt_34 (c_X12_ofItem (gk hX) (gl hX) hs x3 1 M _ er_5) kX12_ofItem vX12_ofItem w_1770 (st139 hs) rfl rfl rfl rfl (Nat.le_of_ble_eq_true rfl) z0 ?_
        refine x_iloadn hX dX12_stopsAt_37 rfl ?_
        refine x_icmp_ne (tgt := 61) hX dX12_stopsAt_38 (by decide) rfl rfl (fun hc => ?_) (fun hc => ?_)
        · replace h := (if_pos hc).symm.trans h
          refine x_aloadn hX dX12_stopsAt_41 rfl ?_
          refine x_getRj (j := 147) hX dX12_stopsAt_42 fl_X12_32 rfl (st139 hs) rfl ?_
          refine x_aloadn hX dX12_stopsAt_45 rfl ?_
          refine x_getI hX dX12_stopsAt_46 fl_X12_263 rfl (st139 hs) ?_
          refine x_iloadn hX dX12_stopsAt_49 rfl ?_
          obtain ⟨b_8, h⟩ := gi_of h
          obtain ⟨M_7, eM_7, h⟩ := bnd_of h
          refine x_iast hX dX12_stopsAt_50 (st147 hs) b_8 rfl (x_meq eM_7 ?_)
          refine x_aloadn hX dX12_stopsAt_51 rfl ?_
          refine x_dup hX dX12_stopsAt_52 rfl ?_
          refine x_getI hX dX12_stopsAt_53 fl_X12_263 rfl (st139 hs) ?_
          refine x_iconst hX dX12_stopsAt_56 ?_
          refine x_iadd hX dX12_stopsAt_57 ?_
          obtain ⟨M_9, eM_9, h⟩ := bnd_of h
          refine x_putI hX dX12_stopsAt_58 fp_X12_263 rfl (st139 hs) (x_meq eM_9 ?_)
          exact x_weak [true, true, true, true] rfl (tj_X12_stopsAt_61_2 hX hs x1 x2 x3 M_9 o h hP hE hR)
        · replace h := (if_neg hc).symm.trans h
          exact x_weak [true, true, true, true] rfl (tj_X12_stopsAt_61_2 hX hs x1 x2 x3 M o h hP hE hR)
      · replace h := (if_neg hc).symm.trans h
        exact x_weak [true, true, true, true] rfl (tj_X12_stopsAt_61_2 hX hs x1 x2 x3 M o h hP hE hR)
  · replace h := (if_neg hc).symm.trans h
    exact x_weak [false, false, false, false] rfl (hE M (Option.some.inj h).symm)
set_option maxRecDepth 100000 in
set_option maxHeartbeats 4000000 in
theorem c_X12_stopsAt {l : Launch} {G : Gx} (hG : GOK G) (hl : l.stackTraces = false) (hs : SOK G)  (x1 : Int) (x2 : Int) (M : Mem) (Mr : Mem) (h : f_X12_stopsAt x1 x2 M = some Mr) : Cn l G mX12_stopsAt 2 [vr G 139, vi x1, vi x2] M none Mr := by
  refine Cn_of2 (ls := [some (vr G 139), some (vi x1), some (vi x2), none]) hG hl kX12_stopsAt rfl (Nat.le_of_ble_eq_true rfl) rfl rfl rfl rfl rfl (fun X eG el hX => ?_)
  subst eG; subst el
  unfold f_X12_stopsAt at h
  refine x_iconst hX dX12_stopsAt_0 ?_
  refine x_istoren (ls' := [some (vr (xG X) 139), some (vi x1), some (vi x2), some (vi 0)]) hX dX12_stopsAt_1 rfl rfl rfl ?_
  refine x_weak (ls' := [some (vr (xG X) 139), some (vi x1), some (vi x2), some (vi 0)]) [true, true, true, true] rfl ?_
  refine lp_use (x := (0, M)) (P := fun x => V X 0 0 (Qn X none Mr) 2 [some (vr (xG X) 139), some (vi x1), some (vi x2), some (vi x.1)] [] x.2) (PE := fun z_10 => V X 0 0 (Qn X none Mr) 67 [none, none, none, none] [] z_10) (PR := fun q => (Qn X none Mr) = Qn X none q) h (fun x o hh hP hE hR => ts_X12_stopsAt_2 hX hs x1 x2 x.1 x.2 o hh hP hE hR) (fun z_10 h => ?_) (fun q h => ?_)
  · show V X 0 0 (Qn X none Mr) 67 [none, none, none, none] [] z_10
    cases h
    exact x_vret hX dX12_stopsAt_67 rfl
  · cases h; rfl
set_option maxRecDepth 100000 in
set_option maxHeartbeats 4000000 in
theorem c_X12_whenRoom {l : Launch} {G : Gx} (hG : GOK G) (hl : l.stackTraces = false) (hs : SOK G)  (x1 : Int) (x2 : Int) (M : Mem) (r : Int) (h : f_X12_whenRoom x1 x2 M = some r) : Cn l G mX12_whenRoom 2 [vr G 139, vi x1, vi x2] M (some (vi r)) M := by
  refine Cn_of2 (ls := [some (vr G 139), some (vi x1), some (vi x2), none]) hG hl kX12_whenRoom rfl (Nat.le_of_ble_eq_true rfl) rfl rfl rfl rfl rfl (fun X eG el hX => ?_)
  subst eG; subst el
  unfold f_X12_whenRoom at h
  refine x_aloadn hX dX12_whenRoom_0 rfl ?_
  refine x_getRj (j := 140) hX dX12_whenRoom_1 fl_X12_7 rfl (st139 hs) rfl ?_
  refine x_bipush hX dX12_whenRoom_4 bp_9 ?_
  refine x_iloadn hX dX12_whenRoom_6 rfl ?_
  refine x_iadd hX dX12_whenRoom_7 ?_
  obtain ⟨b_1, h⟩ := gi_of h
  refine x_iald hX dX12_whenRoom_8 (st140 hs) b_1 rfl ?_
  obtain ⟨x3_2, ex3_2, h⟩ := bnd_of h
  refine x_istoren (ls' := [some (vr (xG X) 139), some (vi x1), some (vi x2), some (vi x3_2)]) hX dX12_whenRoom_9 rfl ex3_2 rfl ?_
  refine x_iloadn hX dX12_whenRoom_10 rfl ?_
  refine x_iconst hX dX12_whenRoom_11 ?_
  refine x_iloadn hX dX12_whenRoom_12 rfl ?_
  obtain ⟨r_3, er_3, h⟩ := cl1_of h
  refine x_callSi (As := [vi 1, vi x3_2]) (rest := [vi x1]) hX dX12_whenRoom_13 (c_X12_greater (gk hX) (gl hX) 1 x3_2 M _ er_3) kX12_greater sX12_greater w_2131 rfl rfl rfl (Nat.le_of_ble_eq_true rfl) z0 ?_
  refine x_icmp_ge (tgt := 21) hX dX12_whenRoom_16 (by decide) rfl rfl (fun hc => ?_) (fun hc => ?_)
  · replace h := (if_pos hc).symm.trans h
    refine x_iconst hX dX12_whenRoom_19 ?_
    cases h
    exact x_iret hX dX12_whenRoom_20 rfl
  · replace h := (if_neg hc).symm.trans h
    refine x_iloadn hX dX12_whenRoom_21 rfl ?_
    refine x_if_ne (tgt := 42) hX dX12_whenRoom_22 (by decide) rfl (fun hc => ?_) (fun hc => ?_)
    · replace h := (if_pos hc).symm.trans h
      refine x_aloadn hX dX12_whenRoom_25 rfl ?_
      refine x_getRj (j := 151) hX dX12_whenRoom_26 fl_X12_44 rfl (st139 hs) rfl ?_
      refine x_iconst hX dX12_whenRoom_29 ?_
      refine x_iloadn hX dX12_whenRoom_30 rfl ?_
      refine x_iconst hX dX12_whenRoom_31 ?_
      refine x_isub hX dX12_whenRoom_32 ?_
      refine x_imul hX dX12_whenRoom_33 ?_
      refine x_iloadn hX dX12_whenRoom_34 rfl ?_
      refine x_iadd hX dX12_whenRoom_35 ?_
      refine x_iconst hX dX12_whenRoom_36 ?_
      refine x_iadd hX dX12_whenRoom_37 ?_
      obtain ⟨b_5, h⟩ := gi_of h
      refine x_iald hX dX12_whenRoom_38 (st151 hs) b_5 rfl ?_
      refine x_goto (tgt := 56) hX dX12_whenRoom_39 (by decide) ?_
      cases h
      exact x_iret hX dX12_whenRoom_56 rfl
    · replace h := (if_neg hc).symm.trans h
      refine x_aloadn hX dX12_whenRoom_42 rfl ?_
      refine x_getRj (j := 150) hX dX12_whenRoom_43 fl_X12_41 rfl (st139 hs) rfl ?_
      refine x_iconst hX dX12_whenRoom_46 ?_
      refine x_iloadn hX dX12_whenRoom_47 rfl ?_
      refine x_iloadn hX dX12_whenRoom_48 rfl ?_
      refine x_isub hX dX12_whenRoom_49 ?_
      refine x_imul hX dX12_whenRoom_50 ?_
      refine x_iloadn hX dX12_whenRoom_51 rfl ?_
      refine x_iadd hX dX12_whenRoom_52 ?_
      refine x_iconst hX dX12_whenRoom_53 ?_
      refine x_iadd hX dX12_whenRoom_54 ?_
      obtain ⟨b_6, h⟩ := gi_of h
      refine x_iald hX dX12_whenRoom_55 (st150 hs) b_6 rfl ?_
      cases h
      exact x_iret hX dX12_whenRoom_56 rfl
set_option maxRecDepth 100000 in
set_option maxHeartbeats 4000000 in
theorem c_X12_completes {l : Launch} {G : Gx} (hG : GOK G) (hl : l.stackTraces = false) (hs : SOK G)  (x1 : Int) (M : Mem) (r : Int) (h : f_X12_completes x1 M = some r) : Cn l G mX12_completes 2 [vr G 139, vi x1] M (some (vi r)) M := by
  refine Cn_of2 (ls := [some (vr G 139), some (vi x1)]) hG hl kX12_completes rfl (Nat.le_of_ble_eq_true rfl) rfl rfl rfl rfl rfl (fun X eG el hX => ?_)
  subst eG; subst el
  unfold f_X12_completes at h
  refine x_aloadn hX dX12_completes_0 rfl ?_
  refine x_getRj (j := 151) hX dX12_completes_1 fl_X12_44 rfl (st139 hs) rfl ?_
  refine x_iconst hX dX12_completes_4 ?_
  refine x_iloadn hX dX12_completes_5 rfl ?_
  refine x_imul hX dX12_completes_6 ?_
  refine x_aloadn hX dX12_completes_7 rfl ?_
  obtain ⟨r_1, er_1, h⟩ := cl1_of h
  refine x_callVi (t := 11) (As := []) (rest := [vi (3 * x1), vr (xG X) 151]) hX dX12_completes_8 (c_X12_zones (gk hX) (gl hX) hs M _ er_1) kX12_zones vX12_zones w_1971 (st139 hs) rfl rfl rfl rfl (Nat.le_of_ble_eq_true rfl) z0 ?_
  refine x_iadd hX dX12_completes_11 ?_
  refine x_iconst hX dX12_completes_12 ?_
  refine x_isub hX dX12_completes_13 ?_
  obtain ⟨b_3, h⟩ := gi_of h
  refine x_iald hX dX12_completes_14 (st151 hs) b_3 rfl ?_
  cases h
  exact x_iret hX dX12_completes_15 rfl
set_option maxRecDepth 100000 in
set_option maxHeartbeats 4000000 in
theorem ts_X12_batchedMany_4 {X : Cxt} (hX : Gd X RX12 cX12_batchedMany 3 (some .int) 2) (hs : SOK (xG X))  (M : Mem) (x1 : Int) (x2 : Int) {Q : State → Prop} (o : (Int × Int) ⊕ ((Int) ⊕ (Int))) (h : s_X12_batchedMany_4 M x1 x2 = some o) (hP : ∀ y, o = .inl y → V X 0 0 Q 4 [some (vr (xG X) 139), some (vi y.1), some (vi y.2)] [] M) (hE : ∀ z, o = .inr (.inl z) → V X 0 0 Q 36 [none, some (vi z), none] [] M) (hR : ∀ q, o = .inr (.inr q) → Q = Qn X (some (vi q)) M) : V X 0 0 Q 4 [some (vr (xG X) 139), some (vi x1), some (vi x2)] [] M := by
  unfold s_X12_batchedMany_4 at h
  refine x_iloadn hX dX12_batchedMany_4 rfl ?_
  refine x_aloadn hX dX12_batchedMany_5 rfl ?_
  refine x_getRj (j := 140) hX dX12_batchedMany_6 fl_X12_7 rfl (st139 hs) rfl ?_
  refine x_iconst hX dX12_batchedMany_9 ?_
  refine x_iald hX dX12_batchedMany_10 (st140 hs) inc_5_469 ixc_5 ?_
  refine x_icmp_ge (tgt := 36) hX dX12_batchedMany_11 (by decide) rfl rfl (fun hc => ?_) (fun hc => ?_)
  · replace h := (if_pos hc).symm.trans h
    refine x_iloadn hX dX12_batchedMany_14 rfl ?_
    refine x_aloadn hX dX12_batchedMany_15 rfl ?_
    refine x_getRj (j := 140) hX dX12_batchedMany_16 fl_X12_7 rfl (st139 hs) rfl ?_
    refine x_sipush hX dX12_batchedMany_19 sp_461 ?_
    refine x_iloadn hX dX12_batchedMany_22 rfl ?_
    refine x_iadd hX dX12_batchedMany_23 ?_
    obtain ⟨b_1, h⟩ := gi_of h
    refine x_iald hX dX12_batchedMany_24 (st140 hs) b_1 rfl ?_
    obtain ⟨r_2, er_2, h⟩ := cl1_of h
    refine x_callSi (As := [vi (M 140 (ix (461 + x2)))]) (rest := [vi x1]) hX dX12_batchedMany_25 (c_X12_ones (gk hX) (gl hX) (M 140 (ix (461 + x2))) M _ er_2) kX12_ones sX12_ones w_1896 rfl rfl rfl (Nat.le_of_ble_eq_true rfl) z0 ?_
    refine x_iadd hX dX12_batchedMany_28 ?_
    obtain ⟨x1_4, ex1_4, h⟩ := bnd_of h
    refine x_istoren (ls' := [some (vr (xG X) 139), some (vi x1_4), some (vi x2)]) hX dX12_batchedMany_29 rfl ex1_4 rfl ?_
    obtain ⟨x2_5, ex2_5, h⟩ := bnd_of h
    refine x_iinc (ls' := [some (vr (xG X) 139), some (vi x1_4), some (vi x2_5)]) hX dX12_batchedMany_30 rfl rfl ex2_5 rfl ?_
    refine x_goto (tgt := 4) hX dX12_batchedMany_33 (by decide) ?_
    exact x_weak [true, true, true] rfl (hP (x1_4, x2_5) (Option.some.inj h).symm)
  · replace h := (if_neg hc).symm.trans h
    exact x_weak [false, true, false] rfl (hE x1 (Option.some.inj h).symm)
set_option maxRecDepth 100000 in
set_option maxHeartbeats 4000000 in
theorem c_X12_batchedMany {l : Launch} {G : Gx} (hG : GOK G) (hl : l.stackTraces = false) (hs : SOK G)  (M : Mem) (r : Int) (h : f_X12_batchedMany M = some r) : Cn l G mX12_batchedMany 2 [vr G 139] M (some (vi r)) M := by
  refine Cn_of2 (ls := [some (vr G 139), none, none]) hG hl kX12_batchedMany rfl (Nat.le_of_ble_eq_true rfl) rfl rfl rfl rfl rfl (fun X eG el hX => ?_)
  subst eG; subst el
  unfold f_X12_batchedMany at h
  refine x_iconst hX dX12_batchedMany_0 ?_
  refine x_istoren (ls' := [some (vr (xG X) 139), some (vi 0), none]) hX dX12_batchedMany_1 rfl rfl rfl ?_
  refine x_iconst hX dX12_batchedMany_2 ?_
  refine x_istoren (ls' := [some (vr (xG X) 139), some (vi 0), some (vi 0)]) hX dX12_batchedMany_3 rfl rfl rfl ?_
  refine x_weak (ls' := [some (vr (xG X) 139), some (vi 0), some (vi 0)]) [true, true, true] rfl ?_
  refine lp_use (x := (0, 0)) (P := fun x => V X 0 0 (Qn X (some (vi r)) M) 4 [some (vr (xG X) 139), some (vi x.1), some (vi x.2)] [] M) (PE := fun z_6 => V X 0 0 (Qn X (some (vi r)) M) 36 [none, some (vi z_6), none] [] M) (PR := fun q => (Qn X (some (vi r)) M) = Qn X (some (vi q)) M) h (fun x o hh hP hE hR => ts_X12_batchedMany_4 hX hs M x.1 x.2 o hh hP hE hR) (fun z_6 h => ?_) (fun q h => ?_)
  · show V X 0 0 (Qn X (some (vi r)) M) 36 [none, some (vi z_6), none] [] M
    refine x_iloadn hX dX12_batchedMany_36 rfl ?_
    cases h
    exact x_iret hX dX12_batchedMany_37 rfl
  · cases h; rfl
set_option maxRecDepth 100000 in
set_option maxHeartbeats 4000000 in
theorem ts_X12_goesOn_11 {X : Cxt} (hX : Gd X RX12 cX12_goesOn 6 (some .boolean) 2) (hs : SOK (xG X))  (x1 : Int) (M : Mem) (x2 : Int) {Q : State → Prop} (o : (Int) ⊕ ((Int) ⊕ (Int × Mem))) (h : s_X12_goesOn_11 x1 M x2 = some o) (hP : ∀ y, o = .inl y → V X 0 0 Q 11 [some (vr (xG X) 139), some (vi x1), some (vi y), none, none, none] [] M) (hE : ∀ z, o = .inr (.inl z) → V X 0 0 Q 38 [some (vr (xG X) 139), some (vi x1), some (vi z), none, none, none] [] M) (hR : ∀ q, o = .inr (.inr q) → Q = Qn X (some (vi q.1)) q.2) : V X 0 0 Q 11 [some (vr (xG X) 139), some (vi x1), some (vi x2), none, none, none] [] M := by
  unfold s_X12_goesOn_11 at h
  refine x_iloadn hX dX12_goesOn_11 rfl ?_
  refine x_if_lt (tgt := 38) hX dX12_goesOn_12 (by decide) rfl (fun hc => ?_) (fun hc => ?_)
  · replace h := (if_pos hc).symm.trans h
    exact x_weak [true, true, true, false, false, false] rfl (hE x2 (Option.some.inj h).symm)
  · replace h := (if_neg hc).symm.trans h
    refine x_aloadn hX dX12_goesOn_15 rfl ?_
    refine x_getRj (j := 149) hX dX12_goesOn_16 fl_X12_38 rfl (st139 hs) rfl ?_
    refine x_iloadn hX dX12_goesOn_19 rfl ?_
    obtain ⟨b_3, h⟩ := gi_of h
    refine x_iald hX dX12_goesOn_20 (st149 hs) b_3 rfl ?_
    refine x_aloadn hX dX12_goesOn_21 rfl ?_
    refine x_getRj (j := 149) hX dX12_goesOn_22 fl_X12_38 rfl (st139 hs) rfl ?_
    refine x_iloadn hX dX12_goesOn_25 rfl ?_
    refine x_iconst hX dX12_goesOn_26 ?_
    refine x_iadd hX dX12_goesOn_27 ?_
    obtain ⟨b_4, h⟩ := gi_of h
    refine x_iald hX dX12_goesOn_28 (st149 hs) b_4 rfl ?_
    refine x_icmp_le (tgt := 38) hX dX12_goesOn_29 (by decide) rfl rfl (fun hc => ?_) (fun hc => ?_)
    · replace h := (if_pos hc).symm.trans h
      obtain ⟨x2_5, ex2_5, h⟩ := bnd_of h
      refine x_iinc (ls' := [some (vr (xG X) 139), some (vi x1), some (vi x2_5), none, none, none]) hX dX12_goesOn_32 rfl rfl ex2_5 rfl ?_
      refine x_goto (tgt := 11) hX dX12_goesOn_35 (by decide) ?_
      exact x_weak [true, true, true, false, false, false] rfl (hP x2_5 (Option.some.inj h).symm)
    · replace h := (if_neg hc).symm.trans h
      exact x_weak [true, true, true, false, false, false] rfl (hE x2 (Option.some.inj h).symm)
set_option maxRecDepth 100000 in
set_option maxHeartbeats 4000000 in
theorem ts_X12_goesOn_48 {X : Cxt} (hX : Gd X RX12 cX12_goesOn 6 (some .boolean) 2) (hs : SOK (xG X))  (x1 : Int) (x2 : Int) (M : Mem) (x3 : Int) {Q : State → Prop} (o : (Int) ⊕ ((Int) ⊕ (Int × Mem))) (h : s_X12_goesOn_48 x1 x2 M x3 = some o) (hP : ∀ y, o = .inl y → V X 0 0 Q 48 [some (vr (xG X) 139), some (vi x1), some (vi x2), some (vi y), none, none] [] M) (hE : ∀ z, o = .inr (.inl z) → V X 0 0 Q 69 [some (vr (xG X) 139), some (vi x1), some (vi x2), some (vi z), none, none] [] M) (hR : ∀ q, o = .inr (.inr q) → Q = Qn X (some (vi q.1)) q.2) : V X 0 0 Q 48 [some (vr (xG X) 139), some (vi x1), some (vi x2), some (vi x3), none, none] [] M := by
  unfold s_X12_goesOn_48 at h
  refine x_aloadn hX dX12_goesOn_48 rfl ?_
  refine x_getRj (j := 149) hX dX12_goesOn_49 fl_X12_38 rfl (st139 hs) rfl ?_
  refine x_iloadn hX dX12_goesOn_52 rfl ?_
  obtain ⟨b_8, h⟩ := gi_of h
  refine x_iald hX dX12_goesOn_53 (st149 hs) b_8 rfl ?_
  refine x_aloadn hX dX12_goesOn_54 rfl ?_
  refine x_getRj (j := 149) hX dX12_goesOn_55 fl_X12_38 rfl (st139 hs) rfl ?_
  refine x_iloadn hX dX12_goesOn_58 rfl ?_
  obtain ⟨b_9, h⟩ := gi_of h
  refine x_iald hX dX12_goesOn_59 (st149 hs) b_9 rfl ?_
  refine x_icmp_ge (tgt := 69) hX dX12_goesOn_60 (by decide) rfl rfl (fun hc => ?_) (fun hc => ?_)
  · replace h := (if_pos hc).symm.trans h
    obtain ⟨x3_10, ex3_10, h⟩ := bnd_of h
    refine x_iinc (ls' := [some (vr (xG X) 139), some (vi x1), some (vi x2), some (vi x3_10), none, none]) hX dX12_goesOn_63 rfl rfl ex3_10 rfl ?_
    refine x_goto (tgt := 48) hX dX12_goesOn_66 (by decide) ?_
    exact x_weak [true, true, true, true, false, false] rfl (hP x3_10 (Option.some.inj h).symm)
  · replace h := (if_neg hc).symm.trans h
    exact x_weak [true, true, true, true, false, false] rfl (hE x3 (Option.some.inj h).symm)
set_option maxRecDepth 100000 in
set_option maxHeartbeats 4000000 in
theorem ts_X12_goesOn_85 {X : Cxt} (hX : Gd X RX12 cX12_goesOn 6 (some .boolean) 2) (hs : SOK (xG X))  (x4 : Int) (x5 : Int) (M : Mem) {Q : State → Prop} (o : (Int × Int × Mem) ⊕ ((Mem) ⊕ (Int × Mem))) (h : s_X12_goesOn_85 x4 x5 M = some o) (hP : ∀ y, o = .inl y → V X 0 0 Q 85 [some (vr (xG X) 139), none, none, none, some (vi y.1), some (vi y.2.1)] [] y.2.2) (hE : ∀ z, o = .inr (.inl z) → V X 0 0 Q 109 [none, none, none, none, none, none] [] z) (hR : ∀ q, o = .inr (.inr q) → Q = Qn X (some (vi q.1)) q.2) : V X 0 0 Q 85 [some (vr (xG X) 139), none, none, none, some (vi x4), some (vi x5)] [] M := by
  unfold s_X12_goesOn_85 at h
  refine x_iload hX dX12_goesOn_85 rfl ?_
  refine x_iload hX dX12_goesOn_87 rfl ?_
  refine x_icmp_ge (tgt := 109) hX dX12_goesOn_89 (by decide) rfl rfl (fun hc => ?_) (fun hc => ?_)
  · replace h := (if_pos hc).symm.trans h
    refine x_aloadn hX dX12_goesOn_92 rfl ?_
    refine x_iload hX dX12_goesOn_93 rfl ?_
    refine x_iload hX dX12_goesOn_95 rfl ?_
    obtain ⟨M_17, er_16, h⟩ := cl1_of h
    refine x_callVv (t := 11) (As := [vi x4, vi x5]) (rest := []) hX dX12_goesOn_97 (c_X12_exchanges (gk hX) (gl hX) hs x4 x5 M _ er_16) kX12_exchanges vX12_exchanges w_2213 (st139 hs) rfl rfl rfl rfl (Nat.le_of_ble_eq_true rfl) z0 ?_
    obtain ⟨x4_18, ex4_18, h⟩ := bnd_of h
    refine x_iinc (ls' := [some (vr (xG X) 139), none, none, none, some (vi x4_18), some (vi x5)]) hX dX12_goesOn_100 rfl rfl ex4_18 rfl ?_
    obtain ⟨x5_19, ex5_19, h⟩ := bnd_of h
    refine x_iinc (ls' := [some (vr (xG X) 139), none, none, none, some (vi x4_18), some (vi x5_19)]) hX dX12_goesOn_103 rfl rfl ex5_19 rfl ?_
    refine x_goto (tgt := 85) hX dX12_goesOn_106 (by decide) ?_
    exact x_weak [true, false, false, false, true, true] rfl (hP (x4_18, x5_19, M_17) (Option.some.inj h).symm)
  · replace h := (if_neg hc).symm.trans h
    exact x_weak [false, false, false, false, false, false] rfl (hE M (Option.some.inj h).symm)
set_option maxRecDepth 100000 in
set_option maxHeartbeats 4000000 in
theorem tj_X12_goesOn_38 {X : Cxt} (hX : Gd X RX12 cX12_goesOn 6 (some .boolean) 2) (hs : SOK (xG X))   (x1 : Int) (x2 : Int) (M : Mem) (r : Int) (Mr : Mem) (h : j_X12_goesOn_38 x1 x2 M = some (r, Mr)) : V X 0 0 (Qn X (some (vi r)) Mr) 38 [some (vr (xG X) 139), some (vi x1), some (vi x2), none, none, none] [] M := by
  unfold j_X12_goesOn_38 at h
  refine x_iloadn hX dX12_goesOn_38 rfl ?_
  refine x_if_ge (tgt := 44) hX dX12_goesOn_39 (by decide) rfl (fun hc => ?_) (fun hc => ?_)
  · replace h := (if_pos hc).symm.trans h
    refine x_iconst hX dX12_goesOn_42 ?_
    cases h
    exact x_zret hX dX12_goesOn_43 (Or.inl cw_0) rfl
  · replace h := (if_neg hc).symm.trans h
    refine x_iloadn hX dX12_goesOn_44 rfl ?_
    refine x_iconst hX dX12_goesOn_45 ?_
    refine x_isub hX dX12_goesOn_46 ?_
    obtain ⟨x3_7, ex3_7, h⟩ := bnd_of h
    refine x_istoren (ls' := [some (vr (xG X) 139), some (vi x1), some (vi x2), some (vi x3_7), none, none]) hX dX12_goesOn_47 rfl ex3_7 rfl ?_
    refine x_weak (ls' := [some (vr (xG X) 139), some (vi x1), some (vi x2), some (vi x3_7), none, none]) [true, true, true, true, false, false] rfl ?_
    refine lp_use (x := x3_7) (P := fun x => V X 0 0 (Qn X (some (vi r)) Mr) 48 [some (vr (xG X) 139), some (vi x1), some (vi x2), some (vi x), none, none] [] M) (PE := fun z_11 => V X 0 0 (Qn X (some (vi r)) Mr) 69 [some (vr (xG X) 139), some (vi x1), some (vi x2), some (vi z_11), none, none] [] M) (PR := fun q => (Qn X (some (vi r)) Mr) = Qn X (some (vi q.1)) q.2) h (fun x o hh hP hE hR => ts_X12_goesOn_48 hX hs x1 x2 M x o hh hP hE hR) (fun z_11 h => ?_) (fun q h => ?_)
    · show V X 0 0 (Qn X (some (vi r)) Mr) 69 [some (vr (xG X) 139), some (vi x1), some (vi x2), some (vi z_11), none, none] [] M
      refine x_aloadn hX dX12_goesOn_69 rfl ?_
      refine x_iloadn hX dX12_goesOn_70 rfl ?_
      refine x_iloadn hX dX12_goesOn_71 rfl ?_
      obtain ⟨M_13, er_12, h⟩ := cl1_of h
      refine x_callVv (t := 11) (As := [vi x2, vi z_11]) (rest := []) hX dX12_goesOn_72 (c_X12_exchanges (gk hX) (gl hX) hs x2 z_11 M _ er_12) kX12_exchanges vX12_exchanges w_2213 (st139 hs) rfl rfl rfl rfl (Nat.le_of_ble_eq_true rfl) z0 ?_
      refine x_iloadn hX dX12_goesOn_75 rfl ?_
      refine x_iconst hX dX12_goesOn_76 ?_
      refine x_iadd hX dX12_goesOn_77 ?_
      obtain ⟨x4_14, ex4_14, h⟩ := bnd_of h
      refine x_istore (ls' := [some (vr (xG X) 139), some (vi x1), some (vi x2), some (vi z_11), some (vi x4_14), none]) hX dX12_goesOn_78 rfl ex4_14 rfl ?_
      refine x_iloadn hX dX12_goesOn_80 rfl ?_
      refine x_iconst hX dX12_goesOn_81 ?_
      refine x_isub hX dX12_goesOn_82 ?_
      obtain ⟨x5_15, ex5_15, h⟩ := bnd_of h
      refine x_istore (ls' := [some (vr (xG X) 139), some (vi x1), some (vi x2), some (vi z_11), some (vi x4_14), some (vi x5_15)]) hX dX12_goesOn_83 rfl ex5_15 rfl ?_
      refine x_weak (ls' := [some (vr (xG X) 139), none, none, none, some (vi x4_14), some (vi x5_15)]) [true, false, false, false, true, true] rfl ?_
      refine lp_use (x := (x4_14, x5_15, M_13)) (P := fun x => V X 0 0 (Qn X (some (vi r)) Mr) 85 [some (vr (xG X) 139), none, none, none, some (vi x.1), some (vi x.2.1)] [] x.2.2) (PE := fun z_20 => V X 0 0 (Qn X (some (vi r)) Mr) 109 [none, none, none, none, none, none] [] z_20) (PR := fun q => (Qn X (some (vi r)) Mr) = Qn X (some (vi q.1)) q.2) h (fun x o hh hP hE hR => ts_X12_goesOn_85 hX hs x.1 x.2.1 x.2.2 o hh hP hE hR) (fun z_20 h => ?_) (fun q h => ?_)
      · show V X 0 0 (Qn X (some (vi r)) Mr) 109 [none, none, none, none, none, none] [] z_20
        refine x_iconst hX dX12_goesOn_109 ?_
        cases h
        exact x_zret hX dX12_goesOn_110 (Or.inr cw_1) rfl
      · cases h; rfl
    · cases h; rfl
set_option maxRecDepth 100000 in
set_option maxHeartbeats 4000000 in
theorem c_X12_goesOn {l : Launch} {G : Gx} (hG : GOK G) (hl : l.stackTraces = false) (hs : SOK G)  (M : Mem) (r : Int) (Mr : Mem) (h : f_X12_goesOn M = some (r, Mr)) : Cn l G mX12_goesOn 2 [vr G 139] M (some (vi r)) Mr := by
  refine Cn_of2 (ls := [some (vr G 139), none, none, none, none, none]) hG hl kX12_goesOn rfl (Nat.le_of_ble_eq_true rfl) rfl rfl rfl rfl rfl (fun X eG el hX => ?_)
  subst eG; subst el
  unfold f_X12_goesOn at h
  refine x_aloadn hX dX12_goesOn_0 rfl ?_
  refine x_getRj (j := 140) hX dX12_goesOn_1 fl_X12_7 rfl (st139 hs) rfl ?_
  refine x_iconst hX dX12_goesOn_4 ?_
  refine x_iald hX dX12_goesOn_5 (st140 hs) inc_5_469 ixc_5 ?_
  obtain ⟨x1_1, ex1_1, h⟩ := bnd_of h
  refine x_istoren (ls' := [some (vr (xG X) 139), some (vi x1_1), none, none, none, none]) hX dX12_goesOn_6 rfl ex1_1 rfl ?_
  refine x_iloadn hX dX12_goesOn_7 rfl ?_
  refine x_iconst hX dX12_goesOn_8 ?_
  refine x_isub hX dX12_goesOn_9 ?_
  obtain ⟨x2_2, ex2_2, h⟩ := bnd_of h
  refine x_istoren (ls' := [some (vr (xG X) 139), some (vi x1_1), some (vi x2_2), none, none, none]) hX dX12_goesOn_10 rfl ex2_2 rfl ?_
  refine x_weak (ls' := [some (vr (xG X) 139), some (vi x1_1), some (vi x2_2), none, none, none]) [true, true, true, false, false, false] rfl ?_
  refine lp_use (x := x2_2) (P := fun x => V X 0 0 (Qn X (some (vi r)) Mr) 11 [some (vr (xG X) 139), some (vi x1_1), some (vi x), none, none, none] [] M) (PE := fun z_6 => V X 0 0 (Qn X (some (vi r)) Mr) 38 [some (vr (xG X) 139), some (vi x1_1), some (vi z_6), none, none, none] [] M) (PR := fun q => (Qn X (some (vi r)) Mr) = Qn X (some (vi q.1)) q.2) h (fun x o hh hP hE hR => ts_X12_goesOn_11 hX hs x1_1 M x o hh hP hE hR) (fun z_6 h => ?_) (fun q h => ?_)
  · show V X 0 0 (Qn X (some (vi r)) Mr) 38 [some (vr (xG X) 139), some (vi x1_1), some (vi z_6), none, none, none] [] M
    exact x_weak [true, true, true, false, false, false] rfl (tj_X12_goesOn_38 hX hs x1_1 z_6 M r Mr h)
  · cases h; rfl
set_option maxRecDepth 100000 in
set_option maxHeartbeats 4000000 in
theorem tj_X12_picks_57 {X : Cxt} (hX : Gd X RX12 cX12_picks 6 (some .int) 2) (hs : SOK (xG X))   (x3 : Int) (x4 : Int) (y0 : Int) (M : Mem) (r : Int) (Mr : Mem) (h : j_X12_picks_57 x3 x4 y0 M = some (r, Mr)) : V X 0 0 (Qn X (some (vi r)) Mr) 57 [some (vr (xG X) 139), none, none, some (vi x3), some (vi x4), none] [vi y0] M := by
  unfold j_X12_picks_57 at h
  refine x_istore (ls' := [some (vr (xG X) 139), none, none, some (vi x3), some (vi x4), some (vi y0)]) hX dX12_picks_57 rfl rfl rfl ?_
  refine x_aloadn hX dX12_picks_59 rfl ?_
  refine x_getRj (j := 140) hX dX12_picks_60 fl_X12_7 rfl (st139 hs) rfl ?_
  refine x_iload hX dX12_picks_63 rfl ?_
  refine x_dup2 hX dX12_picks_65 rfl rfl ?_
  obtain ⟨b_8, h⟩ := gi_of h
  refine x_iald hX dX12_picks_66 (st140 hs) b_8 rfl ?_
  refine x_iload hX dX12_picks_67 rfl ?_
  refine x_isub hX dX12_picks_69 ?_
  obtain ⟨b_10, h⟩ := gi_of h
  obtain ⟨M_9, eM_9, h⟩ := bnd_of h
  refine x_iast hX dX12_picks_70 (st140 hs) b_10 rfl (x_meq eM_9 ?_)
  refine x_aloadn hX dX12_picks_71 rfl ?_
  refine x_getRj (j := 140) hX dX12_picks_72 fl_X12_7 rfl (st139 hs) rfl ?_
  refine x_iloadn hX dX12_picks_75 rfl ?_
  refine x_iconst hX dX12_picks_76 ?_
  refine x_iadd hX dX12_picks_77 ?_
  refine x_iload hX dX12_picks_78 rfl ?_
  obtain ⟨b_12, h⟩ := gi_of h
  obtain ⟨M_11, eM_11, h⟩ := bnd_of h
  refine x_iast hX dX12_picks_80 (st140 hs) b_12 rfl (x_meq eM_11 ?_)
  refine x_iload hX dX12_picks_81 rfl ?_
  cases h
  exact x_iret hX dX12_picks_83 rfl
set_option maxRecDepth 100000 in
set_option maxHeartbeats 4000000 in
theorem c_X12_picks {l : Launch} {G : Gx} (hG : GOK G) (hl : l.stackTraces = false) (hs : SOK G)  (x1 : Int) (x2 : Int) (M : Mem) (r : Int) (Mr : Mem) (h : f_X12_picks x1 x2 M = some (r, Mr)) : Cn l G mX12_picks 2 [vr G 139, vi x1, vi x2] M (some (vi r)) Mr := by
  refine Cn_of2 (ls := [some (vr G 139), some (vi x1), some (vi x2), none, none, none]) hG hl kX12_picks rfl (Nat.le_of_ble_eq_true rfl) rfl rfl rfl rfl rfl (fun X eG el hX => ?_)
  subst eG; subst el
  unfold f_X12_picks at h
  refine x_iloadn hX dX12_picks_0 rfl ?_
  refine x_iloadn hX dX12_picks_1 rfl ?_
  obtain ⟨r_1, er_1, h⟩ := cl1_of h
  refine x_callSi (As := [vi x1, vi x2]) (rest := []) hX dX12_picks_2 (c_X12_lineAt (gk hX) (gl hX) x1 x2 M _ er_1) kX12_lineAt sX12_lineAt w_1805 rfl rfl rfl (Nat.le_of_ble_eq_true rfl) z0 ?_
  refine x_istoren (ls' := [some (vr (xG X) 139), some (vi x1), some (vi x2), some (vi r_1), none, none]) hX dX12_picks_5 rfl rfl rfl ?_
  refine x_bipush hX dX12_picks_6 bp_13 ?_
  refine x_iconst hX dX12_picks_8 ?_
  refine x_aloadn hX dX12_picks_9 rfl ?_
  refine x_getRj (j := 140) hX dX12_picks_10 fl_X12_7 rfl (st139 hs) rfl ?_
  refine x_iloadn hX dX12_picks_13 rfl ?_
  obtain ⟨b_3, h⟩ := gi_of h
  refine x_iald hX dX12_picks_14 (st140 hs) b_3 rfl ?_
  refine x_imul hX dX12_picks_15 ?_
  refine x_iadd hX dX12_picks_16 ?_
  refine x_iconst hX dX12_picks_17 ?_
  refine x_iadd hX dX12_picks_18 ?_
  obtain ⟨x4_4, ex4_4, h⟩ := bnd_of h
  refine x_istore (ls' := [some (vr (xG X) 139), some (vi x1), some (vi x2), some (vi r_1), some (vi x4_4), none]) hX dX12_picks_19 rfl ex4_4 rfl ?_
  refine x_aloadn hX dX12_picks_21 rfl ?_
  refine x_getRj (j := 140) hX dX12_picks_22 fl_X12_7 rfl (st139 hs) rfl ?_
  refine x_iload hX dX12_picks_25 rfl ?_
  obtain ⟨b_5, h⟩ := gi_of h
  refine x_iald hX dX12_picks_27 (st140 hs) b_5 rfl ?_
  refine x_aloadn hX dX12_picks_28 rfl ?_
  refine x_getRj (j := 140) hX dX12_picks_29 fl_X12_7 rfl (st139 hs) rfl ?_
  refine x_iloadn hX dX12_picks_32 rfl ?_
  refine x_iconst hX dX12_picks_33 ?_
  refine x_iadd hX dX12_picks_34 ?_
  obtain ⟨b_6, h⟩ := gi_of h
  refine x_iald hX dX12_picks_35 (st140 hs) b_6 rfl ?_
  refine x_icmp_ge (tgt := 49) hX dX12_picks_36 (by decide) rfl rfl (fun hc => ?_) (fun hc => ?_)
  · replace h := (if_pos hc).symm.trans h
    refine x_aloadn hX dX12_picks_39 rfl ?_
    refine x_getRj (j := 140) hX dX12_picks_40 fl_X12_7 rfl (st139 hs) rfl ?_
    refine x_iload hX dX12_picks_43 rfl ?_
    obtain ⟨b_7, h⟩ := gi_of h
    refine x_iald hX dX12_picks_45 (st140 hs) b_7 rfl ?_
    refine x_goto (tgt := 57) hX dX12_picks_46 (by decide) ?_
    exact x_weak [true, false, false, true, true, false] rfl (tj_X12_picks_57 hX hs r_1 x4_4 (M 140 (ix x4_4)) M r Mr h)
  · replace h := (if_neg hc).symm.trans h
    refine x_aloadn hX dX12_picks_49 rfl ?_
    refine x_getRj (j := 140) hX dX12_picks_50 fl_X12_7 rfl (st139 hs) rfl ?_
    refine x_iloadn hX dX12_picks_53 rfl ?_
    refine x_iconst hX dX12_picks_54 ?_
    refine x_iadd hX dX12_picks_55 ?_
    obtain ⟨b_13, h⟩ := gi_of h
    refine x_iald hX dX12_picks_56 (st140 hs) b_13 rfl ?_
    exact x_weak [true, false, false, true, true, false] rfl (tj_X12_picks_57 hX hs r_1 x4_4 (M 140 (ix (r_1 + 1))) M r Mr h)
set_option maxRecDepth 100000 in
set_option maxHeartbeats 4000000 in
theorem tj_X12_truncateText_18 {X : Cxt} (hX : Gd X RX12 cX12_truncateText 2 (some .int) 2) (hs : SOK (xG X))   (x1 : Int) (y1 : Int) (M : Mem) (r : Int) (Mr : Mem) (h : j_X12_truncateText_18 x1 y1 M = some (r, Mr)) : V X 0 0 (Qn X (some (vi r)) Mr) 18 [some (vr (xG X) 139), some (vi x1)] [vi y1, vr (xG X) 139] M := by
  unfold j_X12_truncateText_18 at h
  obtain ⟨M_3, eM_3, h⟩ := bnd_of h
  refine x_putI hX dX12_truncateText_18 fp_X12_70 rfl (st139 hs) (x_meq eM_3 ?_)
  refine x_aloadn hX dX12_truncateText_21 rfl ?_
  refine x_getI hX dX12_truncateText_22 fl_X12_70 rfl (st139 hs) ?_
  refine x_if_le (tgt := 30) hX dX12_truncateText_25 (by decide) rfl (fun hc => ?_) (fun hc => ?_)
  · replace h := (if_pos hc).symm.trans h
    refine x_iconst hX dX12_truncateText_28 ?_
    cases h
    exact x_iret hX dX12_truncateText_29 rfl
  · replace h := (if_neg hc).symm.trans h
    refine x_aloadn hX dX12_truncateText_30 rfl ?_
    refine x_iloadn hX dX12_truncateText_31 rfl ?_
    obtain ⟨M_4, eM_4, h⟩ := bnd_of h
    refine x_putI hX dX12_truncateText_32 fp_X12_353 rfl (st139 hs) (x_meq eM_4 ?_)
    refine x_aloadn hX dX12_truncateText_35 rfl ?_
    refine x_getI hX dX12_truncateText_36 fl_X12_353 rfl (st139 hs) ?_
    cases h
    exact x_iret hX dX12_truncateText_39 rfl
set_option maxRecDepth 100000 in
set_option maxHeartbeats 4000000 in
theorem c_X12_truncateText {l : Launch} {G : Gx} (hG : GOK G) (hl : l.stackTraces = false) (hs : SOK G)  (x1 : Int) (M : Mem) (r : Int) (Mr : Mem) (h : f_X12_truncateText x1 M = some (r, Mr)) : Cn l G mX12_truncateText 2 [vr G 139, vi x1] M (some (vi r)) Mr := by
  refine Cn_of2 (ls := [some (vr G 139), some (vi x1)]) hG hl kX12_truncateText rfl (Nat.le_of_ble_eq_true rfl) rfl rfl rfl rfl rfl (fun X eG el hX => ?_)
  subst eG; subst el
  unfold f_X12_truncateText at h
  refine x_aloadn hX dX12_truncateText_0 rfl ?_
  refine x_iloadn hX dX12_truncateText_1 rfl ?_
  refine x_iconst hX dX12_truncateText_2 ?_
  refine x_aloadn hX dX12_truncateText_3 rfl ?_
  refine x_getI hX dX12_truncateText_4 fl_X12_353 rfl (st139 hs) ?_
  obtain ⟨r_1, er_1, h⟩ := cl1_of h
  refine x_callSi (As := [vi x1, vi 0, vi (M 139 23)]) (rest := [vr (xG X) 139]) hX dX12_truncateText_7 (c_X12_in (gk hX) (gl hX) x1 0 (M 139 23) M _ er_1) kX12_in sX12_in w_1735 rfl rfl rfl (Nat.le_of_ble_eq_true rfl) z0 ?_
  refine x_if_eq (tgt := 17) hX dX12_truncateText_10 (by decide) rfl (fun hc => ?_) (fun hc => ?_)
  · replace h := (if_pos hc).symm.trans h
    refine x_iconst hX dX12_truncateText_17 ?_
    exact x_weak [true, true] rfl (tj_X12_truncateText_18 hX hs x1 1 M r Mr h)
  · replace h := (if_neg hc).symm.trans h
    refine x_iconst hX dX12_truncateText_13 ?_
    refine x_goto (tgt := 18) hX dX12_truncateText_14 (by decide) ?_
    exact x_weak [true, true] rfl (tj_X12_truncateText_18 hX hs x1 0 M r Mr h)
set_option maxRecDepth 100000 in
set_option maxHeartbeats 4000000 in
theorem c_X12_isSmall {l : Launch} {G : Gx} (hG : GOK G) (hl : l.stackTraces = false) (hs : SOK G)  (M : Mem) (r : Int) (h : f_X12_isSmall M = some r) : Cn l G mX12_isSmall 2 [vr G 139] M (some (vi r)) M := by
  refine Cn_of2 (ls := [some (vr G 139)]) hG hl kX12_isSmall rfl (Nat.le_of_ble_eq_true rfl) rfl rfl rfl rfl rfl (fun X eG el hX => ?_)
  subst eG; subst el
  unfold f_X12_isSmall at h
  refine x_aloadn hX dX12_isSmall_0 rfl ?_
  obtain ⟨r_1, er_1, h⟩ := cl1_of h
  refine x_callVi (t := 11) (As := []) (rest := []) hX dX12_isSmall_1 (c_X12_see (gk hX) (gl hX) hs M _ er_1) kX12_see vX12_see w_2276 (st139 hs) rfl rfl rfl rfl (Nat.le_of_ble_eq_true rfl) z0 ?_
  refine x_bipush hX dX12_isSmall_4 bp_97 ?_
  refine x_bipush hX dX12_isSmall_6 bp_122 ?_
  obtain ⟨r_3, er_3, h⟩ := cl1_of h
  refine x_callSi (As := [vi r_1, vi 97, vi 122]) (rest := []) hX dX12_isSmall_8 (c_X12_in (gk hX) (gl hX) r_1 97 122 M _ er_3) kX12_in sX12_in w_1735 rfl rfl rfl (Nat.le_of_ble_eq_true rfl) z0 ?_
  obtain ⟨b_5, h⟩ := gz_of h
  cases h
  exact x_zret hX dX12_isSmall_11 b_5 rfl
set_option maxRecDepth 100000 in
set_option maxHeartbeats 4000000 in
theorem c_X12_isDigit {l : Launch} {G : Gx} (hG : GOK G) (hl : l.stackTraces = false) (hs : SOK G)  (M : Mem) (r : Int) (h : f_X12_isDigit M = some r) : Cn l G mX12_isDigit 2 [vr G 139] M (some (vi r)) M := by
  refine Cn_of2 (ls := [some (vr G 139)]) hG hl kX12_isDigit rfl (Nat.le_of_ble_eq_true rfl) rfl rfl rfl rfl rfl (fun X eG el hX => ?_)
  subst eG; subst el
  unfold f_X12_isDigit at h
  refine x_aloadn hX dX12_isDigit_0 rfl ?_
  obtain ⟨r_1, er_1, h⟩ := cl1_of h
  refine x_callVi (t := 11) (As := []) (rest := []) hX dX12_isDigit_1 (c_X12_see (gk hX) (gl hX) hs M _ er_1) kX12_see vX12_see w_2276 (st139 hs) rfl rfl rfl rfl (Nat.le_of_ble_eq_true rfl) z0 ?_
  refine x_bipush hX dX12_isDigit_4 bp_48 ?_
  refine x_bipush hX dX12_isDigit_6 bp_57 ?_
  obtain ⟨r_3, er_3, h⟩ := cl1_of h
  refine x_callSi (As := [vi r_1, vi 48, vi 57]) (rest := []) hX dX12_isDigit_8 (c_X12_in (gk hX) (gl hX) r_1 48 57 M _ er_3) kX12_in sX12_in w_1735 rfl rfl rfl (Nat.le_of_ble_eq_true rfl) z0 ?_
  obtain ⟨b_5, h⟩ := gz_of h
  cases h
  exact x_zret hX dX12_isDigit_11 b_5 rfl
set_option maxRecDepth 100000 in
set_option maxHeartbeats 4000000 in
theorem tj_X12_save_15 {X : Cxt} (hX : Gd X RX12 cX12_save 2 (none) 2) (hs : SOK (xG X))   (x1 : Int) (y1 : Int) (M : Mem) (Mr : Mem) (h : j_X12_save_15 x1 y1 M = some Mr) : V X 0 0 (Qn X none Mr) 15 [some (vr (xG X) 139), some (vi x1)] [vi y1, vr (xG X) 139] M := by
  unfold j_X12_save_15 at h
  obtain ⟨M_3, eM_3, h⟩ := bnd_of h
  refine x_putI hX dX12_save_15 fp_X12_70 rfl (st139 hs) (x_meq eM_3 ?_)
  refine x_aloadn hX dX12_save_18 rfl ?_
  refine x_getI hX dX12_save_19 fl_X12_70 rfl (st139 hs) ?_
  refine x_if_le (tgt := 26) hX dX12_save_22 (by decide) rfl (fun hc => ?_) (fun hc => ?_)
  · replace h := (if_pos hc).symm.trans h
    cases h
    exact x_vret hX dX12_save_25 rfl
  · replace h := (if_neg hc).symm.trans h
    refine x_aloadn hX dX12_save_26 rfl ?_
    refine x_getRj (j := 140) hX dX12_save_27 fl_X12_7 rfl (st139 hs) rfl ?_
    refine x_iconst hX dX12_save_30 ?_
    refine x_aloadn hX dX12_save_31 rfl ?_
    refine x_getRj (j := 142) hX dX12_save_32 fl_X12_16 rfl (st139 hs) rfl ?_
    refine x_sipush hX dX12_save_35 sp_469 ?_
    refine x_iloadn hX dX12_save_38 rfl ?_
    refine x_imul hX dX12_save_39 ?_
    obtain ⟨M_5, er_4, h⟩ := cl1_of h
    refine x_callSv (As := [vr (xG X) 140, vi 0, vr (xG X) 142, vi (469 * x1)]) (rest := []) hX dX12_save_40 (c_X12_copies (gk hX) (gl hX) (st140 hs) (st142 hs) 0 (469 * x1) M_3 _ er_4) kX12_copies sX12_copies w_2269 rfl rfl rfl (Nat.le_of_ble_eq_true rfl) z0 ?_
    refine x_aloadn hX dX12_save_43 rfl ?_
    refine x_getRj (j := 143) hX dX12_save_44 fl_X12_19 rfl (st139 hs) rfl ?_
    refine x_iloadn hX dX12_save_47 rfl ?_
    refine x_iconst hX dX12_save_48 ?_
    obtain ⟨b_7, h⟩ := gi_of h
    obtain ⟨M_6, eM_6, h⟩ := bnd_of h
    refine x_zast hX dX12_save_49 (st143 hs) b_7 rfl (x_meq eM_6 ?_)
    cases h
    exact x_vret hX dX12_save_50 rfl
set_option maxRecDepth 100000 in
set_option maxHeartbeats 4000000 in
theorem c_X12_save {l : Launch} {G : Gx} (hG : GOK G) (hl : l.stackTraces = false) (hs : SOK G)  (x1 : Int) (M : Mem) (Mr : Mem) (h : f_X12_save x1 M = some Mr) : Cn l G mX12_save 2 [vr G 139, vi x1] M none Mr := by
  refine Cn_of2 (ls := [some (vr G 139), some (vi x1)]) hG hl kX12_save rfl (Nat.le_of_ble_eq_true rfl) rfl rfl rfl rfl rfl (fun X eG el hX => ?_)
  subst eG; subst el
  unfold f_X12_save at h
  refine x_aloadn hX dX12_save_0 rfl ?_
  refine x_iloadn hX dX12_save_1 rfl ?_
  refine x_iconst hX dX12_save_2 ?_
  refine x_iconst hX dX12_save_3 ?_
  obtain ⟨r_1, er_1, h⟩ := cl1_of h
  refine x_callSi (As := [vi x1, vi 0, vi 1]) (rest := [vr (xG X) 139]) hX dX12_save_4 (c_X12_in (gk hX) (gl hX) x1 0 1 M _ er_1) kX12_in sX12_in w_1735 rfl rfl rfl (Nat.le_of_ble_eq_true rfl) z0 ?_
  refine x_if_eq (tgt := 14) hX dX12_save_7 (by decide) rfl (fun hc => ?_) (fun hc => ?_)
  · replace h := (if_pos hc).symm.trans h
    refine x_iconst hX dX12_save_14 ?_
    exact x_weak [true, true] rfl (tj_X12_save_15 hX hs x1 1 M Mr h)
  · replace h := (if_neg hc).symm.trans h
    refine x_iconst hX dX12_save_10 ?_
    refine x_goto (tgt := 15) hX dX12_save_11 (by decide) ?_
    exact x_weak [true, true] rfl (tj_X12_save_15 hX hs x1 0 M Mr h)
set_option maxRecDepth 100000 in
set_option maxHeartbeats 4000000 in
theorem tj_X12_restore_28 {X : Cxt} (hX : Gd X RX12 cX12_restore 2 (none) 2) (hs : SOK (xG X))   (x1 : Int) (y1 : Int) (M : Mem) (Mr : Mem) (h : j_X12_restore_28 x1 y1 M = some Mr) : V X 0 0 (Qn X none Mr) 28 [some (vr (xG X) 139), some (vi x1)] [vi y1, vr (xG X) 139] M := by
  unfold j_X12_restore_28 at h
  obtain ⟨M_3, eM_3, h⟩ := bnd_of h
  refine x_putI hX dX12_restore_28 fp_X12_70 rfl (st139 hs) (x_meq eM_3 ?_)
  refine x_aloadn hX dX12_restore_31 rfl ?_
  refine x_getI hX dX12_restore_32 fl_X12_70 rfl (st139 hs) ?_
  refine x_if_le (tgt := 39) hX dX12_restore_35 (by decide) rfl (fun hc => ?_) (fun hc => ?_)
  · replace h := (if_pos hc).symm.trans h
    cases h
    exact x_vret hX dX12_restore_38 rfl
  · replace h := (if_neg hc).symm.trans h
    refine x_aloadn hX dX12_restore_39 rfl ?_
    refine x_getRj (j := 142) hX dX12_restore_40 fl_X12_16 rfl (st139 hs) rfl ?_
    refine x_sipush hX dX12_restore_43 sp_469 ?_
    refine x_iloadn hX dX12_restore_46 rfl ?_
    refine x_imul hX dX12_restore_47 ?_
    refine x_aloadn hX dX12_restore_48 rfl ?_
    refine x_getRj (j := 140) hX dX12_restore_49 fl_X12_7 rfl (st139 hs) rfl ?_
    refine x_iconst hX dX12_restore_52 ?_
    obtain ⟨M_5, er_4, h⟩ := cl1_of h
    refine x_callSv (As := [vr (xG X) 142, vi (469 * x1), vr (xG X) 140, vi 0]) (rest := []) hX dX12_restore_53 (c_X12_copies (gk hX) (gl hX) (st142 hs) (st140 hs) (469 * x1) 0 M_3 _ er_4) kX12_copies sX12_copies w_2269 rfl rfl rfl (Nat.le_of_ble_eq_true rfl) z0 ?_
    cases h
    exact x_vret hX dX12_restore_56 rfl
set_option maxRecDepth 100000 in
set_option maxHeartbeats 4000000 in
theorem c_X12_restore {l : Launch} {G : Gx} (hG : GOK G) (hl : l.stackTraces = false) (hs : SOK G)  (x1 : Int) (M : Mem) (Mr : Mem) (h : f_X12_restore x1 M = some Mr) : Cn l G mX12_restore 2 [vr G 139, vi x1] M none Mr := by
  refine Cn_of2 (ls := [some (vr G 139), some (vi x1)]) hG hl kX12_restore rfl (Nat.le_of_ble_eq_true rfl) rfl rfl rfl rfl rfl (fun X eG el hX => ?_)
  subst eG; subst el
  unfold f_X12_restore at h
  refine x_aloadn hX dX12_restore_0 rfl ?_
  refine x_iloadn hX dX12_restore_1 rfl ?_
  refine x_iconst hX dX12_restore_2 ?_
  refine x_iconst hX dX12_restore_3 ?_
  obtain ⟨r_1, er_1, h⟩ := cl1_of h
  refine x_callSi (As := [vi x1, vi 0, vi 1]) (rest := [vr (xG X) 139]) hX dX12_restore_4 (c_X12_in (gk hX) (gl hX) x1 0 1 M _ er_1) kX12_in sX12_in w_1735 rfl rfl rfl (Nat.le_of_ble_eq_true rfl) z0 ?_
  refine x_if_ne (tgt := 14) hX dX12_restore_7 (by decide) rfl (fun hc => ?_) (fun hc => ?_)
  · replace h := (if_pos hc).symm.trans h
    refine x_iconst hX dX12_restore_10 ?_
    refine x_goto (tgt := 28) hX dX12_restore_11 (by decide) ?_
    exact x_weak [true, true] rfl (tj_X12_restore_28 hX hs x1 1 M Mr h)
  · replace h := (if_neg hc).symm.trans h
    refine x_aloadn hX dX12_restore_14 rfl ?_
    refine x_getRj (j := 143) hX dX12_restore_15 fl_X12_19 rfl (st139 hs) rfl ?_
    refine x_iloadn hX dX12_restore_18 rfl ?_
    obtain ⟨b_6, h⟩ := gi_of h
    refine x_zald hX dX12_restore_19 (st143 hs) b_6 rfl ?_
    refine x_if_eq (tgt := 27) hX dX12_restore_20 (by decide) rfl (fun hc => ?_) (fun hc => ?_)
    · replace h := (if_pos hc).symm.trans h
      refine x_iconst hX dX12_restore_27 ?_
      exact x_weak [true, true] rfl (tj_X12_restore_28 hX hs x1 2 M Mr h)
    · replace h := (if_neg hc).symm.trans h
      refine x_iconst hX dX12_restore_23 ?_
      refine x_goto (tgt := 28) hX dX12_restore_24 (by decide) ?_
      exact x_weak [true, true] rfl (tj_X12_restore_28 hX hs x1 0 M Mr h)
