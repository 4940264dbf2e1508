-- written by wip/gen/emit.py: X12_stopCount, X12_stopItem, X12_savedDistance, X12_laysWork, X12_readStatement, X12_improve, X12_laysSchedule, X12_load, X12_isPartLaid, X12_blockedTime, X12_makespan, X12_lateness
set_option maxRecDepth 100000 in
set_option maxHeartbeats 4000000 in
theorem tj_X12_stopCount_15 {X : Cxt} (hX : Gd X RX12 cX12_stopCount 3 (some .int) 7) (hs : SOK (xG X))   (x1 : Int) (x2 : Int) (y1 : Int) (M : Mem) (r : Int) (Mr : Mem) (h : j_X12_stopCount_15 x1 x2 y1 M = some (r, Mr)) : V X 0 0 (Qn X (some (vi r)) Mr) 15 [some (vr (xG X) 139), some (vi x1), some (vi x2)] [vi y1, vr (xG X) 139] M := by
  unfold j_X12_stopCount_15 at h
  obtain ⟨M_3, eM_3, h⟩ := bnd_of h
  refine x_putI hX dX12_stopCount_15 fp_X12_70 rfl (st139 hs) (x_meq eM_3 ?_)
  refine x_aloadn hX dX12_stopCount_18 rfl ?_
  refine x_getI hX dX12_stopCount_19 fl_X12_70 rfl (st139 hs) ?_
  refine x_if_le (tgt := 27) hX dX12_stopCount_22 (by decide) rfl (fun hc => ?_) (fun hc => ?_)
  · replace h := (if_pos hc).symm.trans h
    refine x_iconst hX dX12_stopCount_25 ?_
    cases h
    exact x_iret hX dX12_stopCount_26 rfl
  · replace h := (if_neg hc).symm.trans h
    refine x_aloadn hX dX12_stopCount_27 rfl ?_
    refine x_aloadn hX dX12_stopCount_28 rfl ?_
    refine x_getRj (j := 140) hX dX12_stopCount_29 fl_X12_7 rfl (st139 hs) rfl ?_
    refine x_sipush hX dX12_stopCount_32 sp_461 ?_
    refine x_iloadn hX dX12_stopCount_35 rfl ?_
    refine x_iadd hX dX12_stopCount_36 ?_
    obtain ⟨b_4, h⟩ := gi_of h
    refine x_iald hX dX12_stopCount_37 (st140 hs) b_4 rfl ?_
    obtain ⟨M_6, er_5, h⟩ := cl1_of h
    refine x_callVv (t := 11) (As := [vi (M_3 140 (ix (461 + x1)))]) (rest := []) hX dX12_stopCount_38 (c_X12_laysSpots (gk hX) (gl hX) hs (M_3 140 (ix (461 + x1))) M_3 _ er_5) kX12_laysSpots vX12_laysSpots w_1967 (st139 hs) rfl rfl rfl rfl (Nat.le_of_ble_eq_true rfl) z0 ?_
    refine x_aloadn hX dX12_stopCount_41 rfl ?_
    refine x_iloadn hX dX12_stopCount_42 rfl ?_
    obtain ⟨M_8, er_7, h⟩ := cl1_of h
    refine x_callVv (t := 11) (As := [vi x2]) (rest := []) hX dX12_stopCount_43 (c_X12_laysStops (gk hX) (gl hX) hs x2 M_6 _ er_7) kX12_laysStops vX12_laysStops w_2071 (st139 hs) rfl rfl rfl rfl (Nat.le_of_ble_eq_true rfl) z0 ?_
    refine x_aloadn hX dX12_stopCount_46 rfl ?_
    refine x_getI hX dX12_stopCount_47 fl_X12_263 rfl (st139 hs) ?_
    cases h
    exact x_iret hX dX12_stopCount_50 rfl
set_option maxRecDepth 100000 in
set_option maxHeartbeats 4000000 in
theorem c_X12_stopCount {l : Launch} {G : Gx} (hG : GOK G) (hl : l.stackTraces = false) (hs : SOK G)  (x1 : Int) (x2 : Int) (M : Mem) (r : Int) (Mr : Mem) (h : f_X12_stopCount x1 x2 M = some (r, Mr)) : Cn l G mX12_stopCount 7 [vr G 139, vi x1, vi x2] M (some (vi r)) Mr := by
  refine Cn_of2 (ls := [some (vr G 139), some (vi x1), some (vi x2)]) hG hl kX12_stopCount rfl (Nat.le_of_ble_eq_true rfl) rfl rfl rfl rfl rfl (fun X eG el hX => ?_)
  subst eG; subst el
  unfold f_X12_stopCount at h
  refine x_aloadn hX dX12_stopCount_0 rfl ?_
  refine x_aloadn hX dX12_stopCount_1 rfl ?_
  refine x_iloadn hX dX12_stopCount_2 rfl ?_
  refine x_iloadn hX dX12_stopCount_3 rfl ?_
  obtain ⟨r_1, er_1, h⟩ := cl1_of h
  refine x_callVi (t := 11) (As := [vi x1, vi x2]) (rest := [vr (xG X) 139]) hX dX12_stopCount_4 (c_X12_isPart (gk hX) (gl hX) hs x1 x2 M _ er_1) kX12_isPart vX12_isPart w_2051 (st139 hs) rfl rfl rfl rfl (Nat.le_of_ble_eq_true rfl) z0 ?_
  refine x_if_eq (tgt := 14) hX dX12_stopCount_7 (by decide) rfl (fun hc => ?_) (fun hc => ?_)
  · replace h := (if_pos hc).symm.trans h
    refine x_iconst hX dX12_stopCount_14 ?_
    exact x_weak [true, true, true] rfl (tj_X12_stopCount_15 hX hs x1 x2 1 M r Mr h)
  · replace h := (if_neg hc).symm.trans h
    refine x_iconst hX dX12_stopCount_10 ?_
    refine x_goto (tgt := 15) hX dX12_stopCount_11 (by decide) ?_
    exact x_weak [true, true, true] rfl (tj_X12_stopCount_15 hX hs x1 x2 0 M r Mr h)
set_option maxRecDepth 100000 in
set_option maxHeartbeats 4000000 in
theorem tj_X12_stopItem_66 {X : Cxt} (hX : Gd X RX12 cX12_stopItem 4 (some .int) 7) (hs : SOK (xG X))   (x3 : Int) (y1 : Int) (M : Mem) (r : Int) (Mr : Mem) (h : j_X12_stopItem_66 x3 y1 M = some (r, Mr)) : V X 0 0 (Qn X (some (vi r)) Mr) 66 [some (vr (xG X) 139), none, none, some (vi x3)] [vi y1, vr (xG X) 139] M := by
  unfold j_X12_stopItem_66 at h
  obtain ⟨M_11, eM_11, h⟩ := bnd_of h
  refine x_putI hX dX12_stopItem_66 fp_X12_70 rfl (st139 hs) (x_meq eM_11 ?_)
  refine x_aloadn hX dX12_stopItem_69 rfl ?_
  refine x_getI hX dX12_stopItem_70 fl_X12_70 rfl (st139 hs) ?_
  refine x_if_le (tgt := 80) hX dX12_stopItem_73 (by decide) rfl (fun hc => ?_) (fun hc => ?_)
  · replace h := (if_pos hc).symm.trans h
    refine x_iconst hX dX12_stopItem_76 ?_
    refine x_goto (tgt := 86) hX dX12_stopItem_77 (by decide) ?_
    cases h
    exact x_iret hX dX12_stopItem_86 rfl
  · replace h := (if_neg hc).symm.trans h
    refine x_aloadn hX dX12_stopItem_80 rfl ?_
    refine x_getRj (j := 147) hX dX12_stopItem_81 fl_X12_32 rfl (st139 hs) rfl ?_
    refine x_iloadn hX dX12_stopItem_84 rfl ?_
    obtain ⟨b_12, h⟩ := gi_of h
    refine x_iald hX dX12_stopItem_85 (st147 hs) b_12 rfl ?_
    cases h
    exact x_iret hX dX12_stopItem_86 rfl
set_option maxRecDepth 100000 in
set_option maxHeartbeats 4000000 in
theorem tj_X12_stopItem_15 {X : Cxt} (hX : Gd X RX12 cX12_stopItem 4 (some .int) 7) (hs : SOK (xG X))   (x1 : Int) (x2 : Int) (x3 : Int) (y1 : Int) (M : Mem) (r : Int) (Mr : Mem) (h : j_X12_stopItem_15 x1 x2 x3 y1 M = some (r, Mr)) : V X 0 0 (Qn X (some (vi r)) Mr) 15 [some (vr (xG X) 139), some (vi x1), some (vi x2), some (vi x3)] [vi y1, vr (xG X) 139] M := by
  unfold j_X12_stopItem_15 at h
  obtain ⟨M_3, eM_3, h⟩ := bnd_of h
  refine x_putI hX dX12_stopItem_15 fp_X12_70 rfl (st139 hs) (x_meq eM_3 ?_)
  refine x_aloadn hX dX12_stopItem_18 rfl ?_
  refine x_getI hX dX12_stopItem_19 fl_X12_70 rfl (st139 hs) ?_
  refine x_if_le (tgt := 27) hX dX12_stopItem_22 (by decide) rfl (fun hc => ?_) (fun hc => ?_)
  · replace h := (if_pos hc).symm.trans h
    refine x_iconst hX dX12_stopItem_25 ?_
    cases h
    exact x_iret hX dX12_stopItem_26 rfl
  · replace h := (if_neg hc).symm.trans h
    refine x_aloadn hX dX12_stopItem_27 rfl ?_
    refine x_aloadn hX dX12_stopItem_28 rfl ?_
    refine x_getRj (j := 140) hX dX12_stopItem_29 fl_X12_7 rfl (st139 hs) rfl ?_
    refine x_sipush hX dX12_stopItem_32 sp_461 ?_
    refine x_iloadn hX dX12_stopItem_35 rfl ?_
    refine x_iadd hX dX12_stopItem_36 ?_
    obtain ⟨b_4, h⟩ := gi_of h
    refine x_iald hX dX12_stopItem_37 (st140 hs) b_4 rfl ?_
    obtain ⟨M_6, er_5, h⟩ := cl1_of h
    refine x_callVv (t := 11) (As := [vi (M_3 140 (ix (461 + x1)))]) (rest := []) hX dX12_stopItem_38 (c_X12_laysSpots (gk hX) (gl hX) hs (M_3 140 (ix (461 + x1))) M_3 _ er_5) kX12_laysSpots vX12_laysSpots w_1967 (st139 hs) rfl rfl rfl rfl (Nat.le_of_ble_eq_true rfl) z0 ?_
    refine x_aloadn hX dX12_stopItem_41 rfl ?_
    refine x_iloadn hX dX12_stopItem_42 rfl ?_
    obtain ⟨M_8, er_7, h⟩ := cl1_of h
    refine x_callVv (t := 11) (As := [vi x2]) (rest := []) hX dX12_stopItem_43 (c_X12_laysStops (gk hX) (gl hX) hs x2 M_6 _ er_7) kX12_laysStops vX12_laysStops w_2071 (st139 hs) rfl rfl rfl rfl (Nat.le_of_ble_eq_true rfl) z0 ?_
    refine x_aloadn hX dX12_stopItem_46 rfl ?_
    refine x_iloadn hX dX12_stopItem_47 rfl ?_
    refine x_iconst hX dX12_stopItem_48 ?_
    refine x_aloadn hX dX12_stopItem_49 rfl ?_
    refine x_getI hX dX12_stopItem_50 fl_X12_263 rfl (st139 hs) ?_
    refine x_iconst hX dX12_stopItem_53 ?_
    refine x_isub hX dX12_stopItem_54 ?_
    obtain ⟨r_9, er_9, h⟩ := cl1_of h
    refine x_callSi (As := [vi x3, vi 0, vi ((M_8 139 14) - 1)]) (rest := [vr (xG X) 139]) hX dX12_stopItem_55 (c_X12_in (gk hX) (gl hX) x3 0 ((M_8 139 14) - 1) M_8 _ er_9) kX12_in sX12_in w_1735 rfl rfl rfl (Nat.le_of_ble_eq_true rfl) z0 ?_
    refine x_if_eq (tgt := 65) hX dX12_stopItem_58 (by decide) rfl (fun hc => ?_) (fun hc => ?_)
    · replace h := (if_pos hc).symm.trans h
      refine x_iconst hX dX12_stopItem_65 ?_
      exact x_weak [true, false, false, true] rfl (tj_X12_stopItem_66 hX hs x3 1 M_8 r Mr h)
    · replace h := (if_neg hc).symm.trans h
      refine x_iconst hX dX12_stopItem_61 ?_
      refine x_goto (tgt := 66) hX dX12_stopItem_62 (by decide) ?_
      exact x_weak [true, false, false, true] rfl (tj_X12_stopItem_66 hX hs x3 0 M_8 r Mr h)
set_option maxRecDepth 100000 in
set_option maxHeartbeats 4000000 in
theorem c_X12_stopItem {l : Launch} {G : Gx} (hG : GOK G) (hl : l.stackTraces = false) (hs : SOK G)  (x1 : Int) (x2 : Int) (x3 : Int) (M : Mem) (r : Int) (Mr : Mem) (h : f_X12_stopItem x1 x2 x3 M = some (r, Mr)) : Cn l G mX12_stopItem 7 [vr G 139, vi x1, vi x2, vi x3] M (some (vi r)) Mr := by
  refine Cn_of2 (ls := [some (vr G 139), some (vi x1), some (vi x2), some (vi x3)]) hG hl kX12_stopItem rfl (Nat.le_of_ble_eq_true rfl) rfl rfl rfl rfl rfl (fun X eG el hX => ?_)
  subst eG; subst el
  unfold f_X12_stopItem at h
  refine x_aloadn hX dX12_stopItem_0 rfl ?_
  refine x_aloadn hX dX12_stopItem_1 rfl ?_
  refine x_iloadn hX dX12_stopItem_2 rfl ?_
  refine x_iloadn hX dX12_stopItem_3 rfl ?_
  obtain ⟨r_1, er_1, h⟩ := cl1_of h
  refine x_callVi (t := 11) (As := [vi x1, vi x2]) (rest := [vr (xG X) 139]) hX dX12_stopItem_4 (c_X12_isPart (gk hX) (gl hX) hs x1 x2 M _ er_1) kX12_isPart vX12_isPart w_2051 (st139 hs) rfl rfl rfl rfl (Nat.le_of_ble_eq_true rfl) z0 ?_
  refine x_if_eq (tgt := 14) hX dX12_stopItem_7 (by decide) rfl (fun hc => ?_) (fun hc => ?_)
  · replace h := (if_pos hc).symm.trans h
    refine x_iconst hX dX12_stopItem_14 ?_
    exact x_weak [true, true, true, true] rfl (tj_X12_stopItem_15 hX hs x1 x2 x3 1 M r Mr h)
  · replace h := (if_neg hc).symm.trans h
    refine x_iconst hX dX12_stopItem_10 ?_
    refine x_goto (tgt := 15) hX dX12_stopItem_11 (by decide) ?_
    exact x_weak [true, true, true, true] rfl (tj_X12_stopItem_15 hX hs x1 x2 x3 0 M r Mr h)
set_option maxRecDepth 100000 in
set_option maxHeartbeats 4000000 in
theorem tj_X12_savedDistance_47_9 {X : Cxt} (hX : Gd X RX12 cX12_savedDistance 3 (some .int) 7) (hs : SOK (xG X))   (x2 : Int) (y0 : Int) (y1 : Int) (M : Mem) {Q : State → Prop} (o : (Int × Int × Mem) ⊕ ((Int × Mem) ⊕ (Int × Mem))) (h : j_X12_savedDistance_47_9 x2 y0 y1 M = some o) (hP : ∀ y, o = .inl y → V X 0 0 Q 9 [some (vr (xG X) 139), some (vi y.1), some (vi y.2.1)] [] y.2.2) (hE : ∀ z, o = .inr (.inl z) → V X 0 0 Q 55 [some (vr (xG X) 139), some (vi z.1), none] [] z.2) (hR : ∀ q, o = .inr (.inr q) → Q = Qn X (some (vi q.1)) q.2) : V X 0 0 Q 47 [some (vr (xG X) 139), none, some (vi x2)] [vi y1, vi y0] M := by
  unfold j_X12_savedDistance_47_9 at h
  refine x_iadd hX dX12_savedDistance_47 ?_
  obtain ⟨x1_4, ex1_4, h⟩ := bnd_of h
  refine x_istoren (ls' := [some (vr (xG X) 139), some (vi x1_4), some (vi x2)]) hX dX12_savedDistance_48 rfl ex1_4 rfl ?_
  obtain ⟨x2_5, ex2_5, h⟩ := bnd_of h
  refine x_iinc (ls' := [some (vr (xG X) 139), some (vi x1_4), some (vi x2_5)]) hX dX12_savedDistance_49 rfl rfl ex2_5 rfl ?_
  refine x_goto (tgt := 9) hX dX12_savedDistance_52 (by decide) ?_
  exact x_weak [true, true, true] rfl (hP (x1_4, x2_5, M) (Option.some.inj h).symm)
set_option maxRecDepth 100000 in
set_option maxHeartbeats 4000000 in
theorem ts_X12_savedDistance_9 {X : Cxt} (hX : Gd X RX12 cX12_savedDistance 3 (some .int) 7) (hs : SOK (xG X))  (x1 : Int) (x2 : Int) (M : Mem) {Q : State → Prop} (o : (Int × Int × Mem) ⊕ ((Int × Mem) ⊕ (Int × Mem))) (h : s_X12_savedDistance_9 x1 x2 M = some o) (hP : ∀ y, o = .inl y → V X 0 0 Q 9 [some (vr (xG X) 139), some (vi y.1), some (vi y.2.1)] [] y.2.2) (hE : ∀ z, o = .inr (.inl z) → V X 0 0 Q 55 [some (vr (xG X) 139), some (vi z.1), none] [] z.2) (hR : ∀ q, o = .inr (.inr q) → Q = Qn X (some (vi q.1)) q.2) : V X 0 0 Q 9 [some (vr (xG X) 139), some (vi x1), some (vi x2)] [] M := by
  unfold s_X12_savedDistance_9 at h
  refine x_iloadn hX dX12_savedDistance_9 rfl ?_
  refine x_aloadn hX dX12_savedDistance_10 rfl ?_
  refine x_getRj (j := 140) hX dX12_savedDistance_11 fl_X12_7 rfl (st139 hs) rfl ?_
  refine x_iconst hX dX12_savedDistance_14 ?_
  refine x_iald hX dX12_savedDistance_15 (st140 hs) inc_4_469 ixc_4 ?_
  refine x_icmp_ge (tgt := 55) hX dX12_savedDistance_16 (by decide) rfl rfl (fun hc => ?_) (fun hc => ?_)
  · replace h := (if_pos hc).symm.trans h
    refine x_iloadn hX dX12_savedDistance_19 rfl ?_
    refine x_aloadn hX dX12_savedDistance_20 rfl ?_
    refine x_iloadn hX dX12_savedDistance_21 rfl ?_
    obtain ⟨r_2, er_2, h⟩ := cl1_of h
    refine x_callVi (t := 11) (As := [vi x2]) (rest := [vi x1]) hX dX12_savedDistance_22 (c_X12_batchOf (gk hX) (gl hX) hs x2 M _ er_2) kX12_batchOf vX12_batchOf w_1864 (st139 hs) rfl rfl rfl rfl (Nat.le_of_ble_eq_true rfl) z0 ?_
    refine x_iconst hX dX12_savedDistance_25 ?_
    refine x_icmp_ne (tgt := 33) hX dX12_savedDistance_26 (by decide) rfl cw_m1 (fun hc => ?_) (fun hc => ?_)
    · replace h := (if_pos hc).symm.trans h
      refine x_iconst hX dX12_savedDistance_29 ?_
      refine x_goto (tgt := 47) hX dX12_savedDistance_30 (by decide) ?_
      exact x_weak [true, false, true] rfl (tj_X12_savedDistance_47_9 hX hs x2 x1 0 M o h hP hE hR)
    · replace h := (if_neg hc).symm.trans h
      refine x_aloadn hX dX12_savedDistance_33 rfl ?_
      refine x_iconst hX dX12_savedDistance_34 ?_
      refine x_iloadn hX dX12_savedDistance_35 rfl ?_
      refine x_ishl hX dX12_savedDistance_36 ?_
      refine x_aloadn hX dX12_savedDistance_37 rfl ?_
      refine x_getRj (j := 140) hX dX12_savedDistance_38 fl_X12_7 rfl (st139 hs) rfl ?_
      refine x_bipush hX dX12_savedDistance_41 bp_6 ?_
      refine x_iald hX dX12_savedDistance_43 (st140 hs) inc_6_469 ixc_6 ?_
      obtain ⟨r_6, M_7, er_6, h⟩ := cl2_of h
      refine x_callVi (t := 11) (As := [vi (i_shl 1 x2), vi (M 140 6)]) (rest := [vi x1]) hX dX12_savedDistance_44 (c_X12_routes (gk hX) (gl hX) hs (i_shl 1 x2) (M 140 6) M _ _ er_6) kX12_routes vX12_routes w_1963 (st139 hs) rfl rfl rfl rfl (Nat.le_of_ble_eq_true rfl) z0 ?_
      exact x_weak [true, false, true] rfl (tj_X12_savedDistance_47_9 hX hs x2 x1 r_6 M_7 o h hP hE hR)
  · replace h := (if_neg hc).symm.trans h
    exact x_weak [true, true, false] rfl (hE (x1, M) (Option.some.inj h).symm)
set_option maxRecDepth 100000 in
set_option maxHeartbeats 4000000 in
theorem c_X12_savedDistance {l : Launch} {G : Gx} (hG : GOK G) (hl : l.stackTraces = false) (hs : SOK G)  (M : Mem) (r : Int) (Mr : Mem) (h : f_X12_savedDistance M = some (r, Mr)) : Cn l G mX12_savedDistance 7 [vr G 139] M (some (vi r)) Mr := by
  refine Cn_of2 (ls := [some (vr G 139), none, none]) hG hl kX12_savedDistance rfl (Nat.le_of_ble_eq_true rfl) rfl rfl rfl rfl rfl (fun X eG el hX => ?_)
  subst eG; subst el
  unfold f_X12_savedDistance at h
  refine x_aloadn hX dX12_savedDistance_0 rfl ?_
  refine x_iconst hX dX12_savedDistance_1 ?_
  obtain ⟨M_1, eM_1, h⟩ := bnd_of h
  refine x_putI hX dX12_savedDistance_2 fp_X12_70 rfl (st139 hs) (x_meq eM_1 ?_)
  refine x_iconst hX dX12_savedDistance_5 ?_
  refine x_istoren (ls' := [some (vr (xG X) 139), some (vi 0), none]) hX dX12_savedDistance_6 rfl rfl rfl ?_
  refine x_iconst hX dX12_savedDistance_7 ?_
  refine x_istoren (ls' := [some (vr (xG X) 139), some (vi 0), some (vi 0)]) hX dX12_savedDistance_8 rfl rfl rfl ?_
  refine x_weak (ls' := [some (vr (xG X) 139), some (vi 0), some (vi 0)]) [true, true, true] rfl ?_
  refine lp_use (x := (0, 0, M_1)) (P := fun x => V X 0 0 (Qn X (some (vi r)) Mr) 9 [some (vr (xG X) 139), some (vi x.1), some (vi x.2.1)] [] x.2.2) (PE := fun z_8 => V X 0 0 (Qn X (some (vi r)) Mr) 55 [some (vr (xG X) 139), some (vi z_8.1), none] [] z_8.2) (PR := fun q => (Qn X (some (vi r)) Mr) = Qn X (some (vi q.1)) q.2) h (fun x o hh hP hE hR => ts_X12_savedDistance_9 hX hs x.1 x.2.1 x.2.2 o hh hP hE hR) (fun z_8 h => ?_) (fun q h => ?_)
  · show V X 0 0 (Qn X (some (vi r)) Mr) 55 [some (vr (xG X) 139), some (vi z_8.1), none] [] z_8.2
    refine x_iloadn hX dX12_savedDistance_55 rfl ?_
    refine x_aloadn hX dX12_savedDistance_56 rfl ?_
    obtain ⟨r_9, M_10, er_9, h⟩ := cl2_of h
    refine x_callVi (t := 11) (As := []) (rest := [vi z_8.1]) hX dX12_savedDistance_57 (c_X12_allRoutes (gk hX) (gl hX) hs z_8.2 _ _ er_9) kX12_allRoutes vX12_allRoutes w_2107 (st139 hs) rfl rfl rfl rfl (Nat.le_of_ble_eq_true rfl) z0 ?_
    refine x_isub hX dX12_savedDistance_60 ?_
    cases h
    exact x_iret hX dX12_savedDistance_61 rfl
  · cases h; rfl
set_option maxRecDepth 100000 in
set_option maxHeartbeats 4000000 in
theorem tj_X12_laysWork_101_35 {X : Cxt} (hX : Gd X RX12 cX12_laysWork 3 (none) 7) (hs : SOK (xG X))   (x1 : Int) (x2 : Int) (y1 : Int) (y2 : Int) (M : Mem) {Q : State → Prop} (o : (Int × Mem) ⊕ ((Mem) ⊕ (Mem))) (h : j_X12_laysWork_101_35 x1 x2 y1 y2 M = some o) (hP : ∀ y, o = .inl y → V X 0 0 Q 35 [some (vr (xG X) 139), some (vi x1), some (vi y.1)] [] y.2) (hE : ∀ z, o = .inr (.inl z) → V X 0 0 Q 108 [some (vr (xG X) 139), some (vi x1), none] [] z) (hR : ∀ q, o = .inr (.inr q) → Q = Qn X none q) : V X 0 0 Q 101 [some (vr (xG X) 139), some (vi x1), some (vi x2)] [vi y2, vi y1, vr (xG X) 148] M := by
  unfold j_X12_laysWork_101_35 at h
  obtain ⟨b_11, h⟩ := gi_of h
  obtain ⟨M_10, eM_10, h⟩ := bnd_of h
  refine x_iast hX dX12_laysWork_101 (st148 hs) b_11 rfl (x_meq eM_10 ?_)
  obtain ⟨x2_12, ex2_12, h⟩ := bnd_of h
  refine x_iinc (ls' := [some (vr (xG X) 139), some (vi x1), some (vi x2_12)]) hX dX12_laysWork_102 rfl rfl ex2_12 rfl ?_
  refine x_goto (tgt := 35) hX dX12_laysWork_105 (by decide) ?_
  exact x_weak [true, true, true] rfl (hP (x2_12, M_10) (Option.some.inj h).symm)
set_option maxRecDepth 100000 in
set_option maxHeartbeats 4000000 in
theorem ts_X12_laysWork_35 {X : Cxt} (hX : Gd X RX12 cX12_laysWork 3 (none) 7) (hs : SOK (xG X))  (x1 : Int) (x2 : Int) (M : Mem) {Q : State → Prop} (o : (Int × Mem) ⊕ ((Mem) ⊕ (Mem))) (h : s_X12_laysWork_35 x1 x2 M = some o) (hP : ∀ y, o = .inl y → V X 0 0 Q 35 [some (vr (xG X) 139), some (vi x1), some (vi y.1)] [] y.2) (hE : ∀ z, o = .inr (.inl z) → V X 0 0 Q 108 [some (vr (xG X) 139), some (vi x1), none] [] z) (hR : ∀ q, o = .inr (.inr q) → Q = Qn X none q) : V X 0 0 Q 35 [some (vr (xG X) 139), some (vi x1), some (vi x2)] [] M := by
  unfold s_X12_laysWork_35 at h
  refine x_iloadn hX dX12_laysWork_35 rfl ?_
  refine x_aloadn hX dX12_laysWork_36 rfl ?_
  obtain ⟨r_6, er_6, h⟩ := cl1_of h
  refine x_callVi (t := 11) (As := []) (rest := [vi x2]) hX dX12_laysWork_37 (c_X12_zones (gk hX) (gl hX) hs M _ er_6) kX12_zones vX12_zones w_1971 (st139 hs) rfl rfl rfl rfl (Nat.le_of_ble_eq_true rfl) z0 ?_
  refine x_icmp_ge (tgt := 108) hX dX12_laysWork_40 (by decide) rfl rfl (fun hc => ?_) (fun hc => ?_)
  · replace h := (if_pos hc).symm.trans h
    refine x_aloadn hX dX12_laysWork_43 rfl ?_
    refine x_iloadn hX dX12_laysWork_44 rfl ?_
    obtain ⟨M_9, er_8, h⟩ := cl1_of h
    refine x_callVv (t := 11) (As := [vi x2]) (rest := []) hX dX12_laysWork_45 (c_X12_laysStops (gk hX) (gl hX) hs x2 M _ er_8) kX12_laysStops vX12_laysStops w_2071 (st139 hs) rfl rfl rfl rfl (Nat.le_of_ble_eq_true rfl) z0 ?_
    refine x_aloadn hX dX12_laysWork_48 rfl ?_
    refine x_getRj (j := 148) hX dX12_laysWork_49 fl_X12_35 rfl (st139 hs) rfl ?_
    refine x_iconst hX dX12_laysWork_52 ?_
    refine x_iloadn hX dX12_laysWork_53 rfl ?_
    refine x_imul hX dX12_laysWork_54 ?_
    refine x_iloadn hX dX12_laysWork_55 rfl ?_
    refine x_iadd hX dX12_laysWork_56 ?_
    refine x_aloadn hX dX12_laysWork_57 rfl ?_
    refine x_getI hX dX12_laysWork_58 fl_X12_263 rfl (st139 hs) ?_
    refine x_if_ne (tgt := 68) hX dX12_laysWork_61 (by decide) rfl (fun hc => ?_) (fun hc => ?_)
    · replace h := (if_pos hc).symm.trans h
      refine x_iconst hX dX12_laysWork_64 ?_
      refine x_goto (tgt := 101) hX dX12_laysWork_65 (by decide) ?_
      exact x_weak [true, true, true] rfl (tj_X12_laysWork_101_35 hX hs x1 x2 ((3 * x1) + x2) 0 M_9 o h hP hE hR)
    · replace h := (if_neg hc).symm.trans h
      refine x_aloadn hX dX12_laysWork_68 rfl ?_
      refine x_getRj (j := 140) hX dX12_laysWork_69 fl_X12_7 rfl (st139 hs) rfl ?_
      refine x_bipush hX dX12_laysWork_72 bp_11 ?_
      refine x_iald hX dX12_laysWork_74 (st140 hs) inc_11_469 ixc_11 ?_
      refine x_aloadn hX dX12_laysWork_75 rfl ?_
      refine x_iloadn hX dX12_laysWork_76 rfl ?_
      refine x_aloadn hX dX12_laysWork_77 rfl ?_
      refine x_getRj (j := 140) hX dX12_laysWork_78 fl_X12_7 rfl (st139 hs) rfl ?_
      refine x_bipush hX dX12_laysWork_81 bp_6 ?_
      refine x_iald hX dX12_laysWork_83 (st140 hs) inc_6_469 ixc_6 ?_
      obtain ⟨r_13, M_14, er_13, h⟩ := cl2_of h
      refine x_callVi (t := 11) (As := [vi x2, vi (M_9 140 6)]) (rest := [vi (M_9 140 11), vi ((3 * x1) + x2), vr (xG X) 148]) hX dX12_laysWork_84 (c_X12_routeOf (gk hX) (gl hX) hs x2 (M_9 140 6) M_9 _ _ er_13) kX12_routeOf vX12_routeOf w_1975 (st139 hs) rfl rfl rfl rfl (Nat.le_of_ble_eq_true rfl) z0 ?_
      refine x_iadd hX dX12_laysWork_87 ?_
      refine x_aloadn hX dX12_laysWork_88 rfl ?_
      refine x_getRj (j := 140) hX dX12_laysWork_89 fl_X12_7 rfl (st139 hs) rfl ?_
      refine x_bipush hX dX12_laysWork_92 bp_12 ?_
      refine x_iald hX dX12_laysWork_94 (st140 hs) inc_12_469 ixc_12 ?_
      refine x_aloadn hX dX12_laysWork_95 rfl ?_
      refine x_getI hX dX12_laysWork_96 fl_X12_263 rfl (st139 hs) ?_
      refine x_imul hX dX12_laysWork_99 ?_
      refine x_iadd hX dX12_laysWork_100 ?_
      exact x_weak [true, true, true] rfl (tj_X12_laysWork_101_35 hX hs x1 x2 ((3 * x1) + x2) (((M_9 140 11) + r_13) + ((M_14 140 12) * (M_14 139 14))) M_14 o h hP hE hR)
  · replace h := (if_neg hc).symm.trans h
    exact x_weak [true, true, false] rfl (hE M (Option.some.inj h).symm)
set_option maxRecDepth 100000 in
set_option maxHeartbeats 4000000 in
theorem ts_X12_laysWork_2 {X : Cxt} (hX : Gd X RX12 cX12_laysWork 3 (none) 7) (hs : SOK (xG X))  (x1 : Int) (M : Mem) {Q : State → Prop} (o : (Int × Mem) ⊕ ((Mem) ⊕ (Mem))) (h : s_X12_laysWork_2 x1 M = some o) (hP : ∀ y, o = .inl y → V X 0 0 Q 2 [some (vr (xG X) 139), some (vi y.1), none] [] y.2) (hE : ∀ z, o = .inr (.inl z) → V X 0 0 Q 114 [none, none, none] [] z) (hR : ∀ q, o = .inr (.inr q) → Q = Qn X none q) : V X 0 0 Q 2 [some (vr (xG X) 139), some (vi x1), none] [] M := by
  unfold s_X12_laysWork_2 at h
  refine x_iloadn hX dX12_laysWork_2 rfl ?_
  refine x_aloadn hX dX12_laysWork_3 rfl ?_
  refine x_getRj (j := 140) hX dX12_laysWork_4 fl_X12_7 rfl (st139 hs) rfl ?_
  refine x_iconst hX dX12_laysWork_7 ?_
  refine x_iald hX dX12_laysWork_8 (st140 hs) inc_5_469 ixc_5 ?_
  refine x_icmp_ge (tgt := 114) hX dX12_laysWork_9 (by decide) rfl rfl (fun hc => ?_) (fun hc => ?_)
  · replace h := (if_pos hc).symm.trans h
    refine x_aloadn hX dX12_laysWork_12 rfl ?_
    refine x_getRj (j := 149) hX dX12_laysWork_13 fl_X12_38 rfl (st139 hs) rfl ?_
    refine x_iloadn hX dX12_laysWork_16 rfl ?_
    refine x_iloadn hX dX12_laysWork_17 rfl ?_
    obtain ⟨b_2, h⟩ := gi_of h
    obtain ⟨M_1, eM_1, h⟩ := bnd_of h
    refine x_iast hX dX12_laysWork_18 (st149 hs) b_2 rfl (x_meq eM_1 ?_)
    refine x_aloadn hX dX12_laysWork_19 rfl ?_
    refine x_aloadn hX dX12_laysWork_20 rfl ?_
    refine x_getRj (j := 140) hX dX12_laysWork_21 fl_X12_7 rfl (st139 hs) rfl ?_
    refine x_sipush hX dX12_laysWork_24 sp_461 ?_
    refine x_iloadn hX dX12_laysWork_27 rfl ?_
    refine x_iadd hX dX12_laysWork_28 ?_
    obtain ⟨b_3, h⟩ := gi_of h
    refine x_iald hX dX12_laysWork_29 (st140 hs) b_3 rfl ?_
    obtain ⟨M_5, er_4, h⟩ := cl1_of h
    refine x_callVv (t := 11) (As := [vi (M_1 140 (ix (461 + x1)))]) (rest := []) hX dX12_laysWork_30 (c_X12_laysSpots (gk hX) (gl hX) hs (M_1 140 (ix (461 + x1))) M_1 _ er_4) kX12_laysSpots vX12_laysSpots w_1967 (st139 hs) rfl rfl rfl rfl (Nat.le_of_ble_eq_true rfl) z0 ?_
    refine x_iconst hX dX12_laysWork_33 ?_
    refine x_istoren (ls' := [some (vr (xG X) 139), some (vi x1), some (vi 0)]) hX dX12_laysWork_34 rfl rfl rfl ?_
    refine x_weak (ls' := [some (vr (xG X) 139), some (vi x1), some (vi 0)]) [true, true, true] rfl ?_
    refine lp_use (x := (0, M_5)) (P := fun x => V X 0 0 Q 35 [some (vr (xG X) 139), some (vi x1), some (vi x.1)] [] x.2) (PE := fun z_15 => V X 0 0 Q 108 [some (vr (xG X) 139), some (vi x1), none] [] z_15) (PR := fun q => Q = Qn X none q) h (fun x o hh hP hE hR => ts_X12_laysWork_35 hX hs x1 x.1 x.2 o hh hP hE hR) (fun z_15 h => ?_) (fun q h => ?_)
    · show V X 0 0 Q 108 [some (vr (xG X) 139), some (vi x1), none] [] z_15
      obtain ⟨x1_16, ex1_16, h⟩ := bnd_of h
      refine x_iinc (ls' := [some (vr (xG X) 139), some (vi x1_16), none]) hX dX12_laysWork_108 rfl rfl ex1_16 rfl ?_
      refine x_goto (tgt := 2) hX dX12_laysWork_111 (by decide) ?_
      exact x_weak [true, true, false] rfl (hP (x1_16, z_15) (Option.some.inj h).symm)
    · exact hR q (Option.some.inj h).symm
  · replace h := (if_neg hc).symm.trans h
    exact x_weak [false, false, false] rfl (hE M (Option.some.inj h).symm)
set_option maxRecDepth 100000 in
set_option maxHeartbeats 4000000 in
theorem c_X12_laysWork {l : Launch} {G : Gx} (hG : GOK G) (hl : l.stackTraces = false) (hs : SOK G)  (M : Mem) (Mr : Mem) (h : f_X12_laysWork M = some Mr) : Cn l G mX12_laysWork 7 [vr G 139] M none Mr := by
  refine Cn_of2 (ls := [some (vr G 139), none, none]) hG hl kX12_laysWork rfl (Nat.le_of_ble_eq_true rfl) rfl rfl rfl rfl rfl (fun X eG el hX => ?_)
  subst eG; subst el
  unfold f_X12_laysWork at h
  refine x_iconst hX dX12_laysWork_0 ?_
  refine x_istoren (ls' := [some (vr (xG X) 139), some (vi 0), none]) hX dX12_laysWork_1 rfl rfl rfl ?_
  refine x_weak (ls' := [some (vr (xG X) 139), some (vi 0), none]) [true, true, false] rfl ?_
  refine lp_use (x := (0, M)) (P := fun x => V X 0 0 (Qn X none Mr) 2 [some (vr (xG X) 139), some (vi x.1), none] [] x.2) (PE := fun z_17 => V X 0 0 (Qn X none Mr) 114 [none, none, none] [] z_17) (PR := fun q => (Qn X none Mr) = Qn X none q) h (fun x o hh hP hE hR => ts_X12_laysWork_2 hX hs x.1 x.2 o hh hP hE hR) (fun z_17 h => ?_) (fun q h => ?_)
  · show V X 0 0 (Qn X none Mr) 114 [none, none, none] [] z_17
    cases h
    exact x_vret hX dX12_laysWork_114 rfl
  · cases h; rfl
set_option maxRecDepth 100000 in
set_option maxHeartbeats 4000000 in
theorem tj_X12_readStatement_95 {X : Cxt} (hX : Gd X RX12 cX12_readStatement 1 (none) 7) (hs : SOK (xG X))   (M : Mem) (Mr : Mem) (h : j_X12_readStatement_95 M = some Mr) : V X 0 0 (Qn X none Mr) 95 [some (vr (xG X) 139)] [] M := by
  unfold j_X12_readStatement_95 at h
  refine x_aloadn hX dX12_readStatement_95 rfl ?_
  obtain ⟨M_6, er_5, h⟩ := cl1_of h
  refine x_callVv (t := 11) (As := []) (rest := []) hX dX12_readStatement_96 (c_X12_ends (gk hX) (gl hX) hs M _ er_5) kX12_ends vX12_ends w_2309 (st139 hs) rfl rfl rfl rfl (Nat.le_of_ble_eq_true rfl) z0 ?_
  cases h
  exact x_vret hX dX12_readStatement_99 rfl
set_option maxRecDepth 100000 in
set_option maxHeartbeats 4000000 in
theorem c_X12_readStatement {l : Launch} {G : Gx} (hG : GOK G) (hl : l.stackTraces = false) (hs : SOK G)  (M : Mem) (Mr : Mem) (h : f_X12_readStatement M = some Mr) : Cn l G mX12_readStatement 7 [vr G 139] M none Mr := by
  refine Cn_of2 (ls := [some (vr G 139)]) hG hl kX12_readStatement rfl (Nat.le_of_ble_eq_true rfl) rfl rfl rfl rfl rfl (fun X eG el hX => ?_)
  subst eG; subst el
  unfold f_X12_readStatement at h
  refine x_aloadn hX dX12_readStatement_0 rfl ?_
  obtain ⟨r_1, er_1, h⟩ := cl1_of h
  refine x_callVi (t := 11) (As := []) (rest := []) hX dX12_readStatement_1 (c_X12_wordHere (gk hX) (gl hX) hs M _ er_1) kX12_wordHere vX12_wordHere w_2293 (st139 hs) rfl rfl rfl rfl (Nat.le_of_ble_eq_true rfl) z0 ?_
  by_cases hs1 : w32 r_1 = 1
  · replace h := (if_pos hs1).symm.trans h
    refine x_tsI (tgt := 48) hX dX12_readStatement_4 hs1 (by decide) (by decide) rfl (by decide) ?_
    refine x_aloadn hX dX12_readStatement_48 rfl ?_
    obtain ⟨M_4, er_3, h⟩ := cl1_of h
    refine x_callVv (t := 11) (As := []) (rest := []) hX dX12_readStatement_49 (c_X12_readItem (gk hX) (gl hX) hs M _ er_3) kX12_readItem vX12_readItem w_2317 (st139 hs) rfl rfl rfl rfl (Nat.le_of_ble_eq_true rfl) z0 ?_
    refine x_goto (tgt := 95) hX dX12_readStatement_52 (by decide) ?_
    exact x_weak [true] rfl (tj_X12_readStatement_95 hX hs M_4 Mr h)
  · replace h := (if_neg hs1).symm.trans h
    by_cases hs2 : w32 r_1 = 2
    · replace h := (if_pos hs2).symm.trans h
      refine x_tsI (tgt := 55) hX dX12_readStatement_4 hs2 (by decide) (by decide) rfl (by decide) ?_
      refine x_aloadn hX dX12_readStatement_55 rfl ?_
      obtain ⟨M_8, er_7, h⟩ := cl1_of h
      refine x_callVv (t := 11) (As := []) (rest := []) hX dX12_readStatement_56 (c_X12_readOrder (gk hX) (gl hX) hs M _ er_7) kX12_readOrder vX12_readOrder w_2321 (st139 hs) rfl rfl rfl rfl (Nat.le_of_ble_eq_true rfl) z0 ?_
      refine x_goto (tgt := 95) hX dX12_readStatement_59 (by decide) ?_
      exact x_weak [true] rfl (tj_X12_readStatement_95 hX hs M_8 Mr h)
    · replace h := (if_neg hs2).symm.trans h
      by_cases hs3 : w32 r_1 = 3
      · replace h := (if_pos hs3).symm.trans h
        refine x_tsI (tgt := 90) hX dX12_readStatement_4 hs3 (by decide) (by decide) rfl (by decide) ?_
        refine x_aloadn hX dX12_readStatement_90 rfl ?_
        refine x_iconst hX dX12_readStatement_91 ?_
        obtain ⟨M_10, er_9, h⟩ := cl1_of h
        refine x_callVv (t := 11) (As := [vi 1]) (rest := []) hX dX12_readStatement_92 (c_X12_fails (gk hX) (gl hX) hs 1 M _ er_9) kX12_fails vX12_fails w_2297 (st139 hs) rfl rfl rfl rfl (Nat.le_of_ble_eq_true rfl) z0 ?_
        exact x_weak [true] rfl (tj_X12_readStatement_95 hX hs M_10 Mr h)
      · replace h := (if_neg hs3).symm.trans h
        by_cases hs4 : w32 r_1 = 4
        · replace h := (if_pos hs4).symm.trans h
          refine x_tsI (tgt := 62) hX dX12_readStatement_4 hs4 (by decide) (by decide) rfl (by decide) ?_
          refine x_aloadn hX dX12_readStatement_62 rfl ?_
          obtain ⟨M_12, er_11, h⟩ := cl1_of h
          refine x_callVv (t := 11) (As := []) (rest := []) hX dX12_readStatement_63 (c_X12_readZones (gk hX) (gl hX) hs M _ er_11) kX12_readZones vX12_readZones w_2329 (st139 hs) rfl rfl rfl rfl (Nat.le_of_ble_eq_true rfl) z0 ?_
          refine x_goto (tgt := 95) hX dX12_readStatement_66 (by decide) ?_
          exact x_weak [true] rfl (tj_X12_readStatement_95 hX hs M_12 Mr h)
        · replace h := (if_neg hs4).symm.trans h
          by_cases hs5 : w32 r_1 = 5
          · replace h := (if_pos hs5).symm.trans h
            refine x_tsI (tgt := 69) hX dX12_readStatement_4 hs5 (by decide) (by decide) rfl (by decide) ?_
            refine x_aloadn hX dX12_readStatement_69 rfl ?_
            obtain ⟨M_14, er_13, h⟩ := cl1_of h
            refine x_callVv (t := 11) (As := []) (rest := []) hX dX12_readStatement_70 (c_X12_readBuffer (gk hX) (gl hX) hs M _ er_13) kX12_readBuffer vX12_readBuffer w_2333 (st139 hs) rfl rfl rfl rfl (Nat.le_of_ble_eq_true rfl) z0 ?_
            refine x_goto (tgt := 95) hX dX12_readStatement_73 (by decide) ?_
            exact x_weak [true] rfl (tj_X12_readStatement_95 hX hs M_14 Mr h)
          · replace h := (if_neg hs5).symm.trans h
            by_cases hs6 : w32 r_1 = 6
            · replace h := (if_pos hs6).symm.trans h
              refine x_tsI (tgt := 76) hX dX12_readStatement_4 hs6 (by decide) (by decide) rfl (by decide) ?_
              refine x_aloadn hX dX12_readStatement_76 rfl ?_
              obtain ⟨M_16, er_15, h⟩ := cl1_of h
              refine x_callVv (t := 11) (As := []) (rest := []) hX dX12_readStatement_77 (c_X12_readTimes (gk hX) (gl hX) hs M _ er_15) kX12_readTimes vX12_readTimes w_2337 (st139 hs) rfl rfl rfl rfl (Nat.le_of_ble_eq_true rfl) z0 ?_
              refine x_goto (tgt := 95) hX dX12_readStatement_80 (by decide) ?_
              exact x_weak [true] rfl (tj_X12_readStatement_95 hX hs M_16 Mr h)
            · replace h := (if_neg hs6).symm.trans h
              by_cases hs7 : w32 r_1 = 7
              · replace h := (if_pos hs7).symm.trans h
                refine x_tsI (tgt := 83) hX dX12_readStatement_4 hs7 (by decide) (by decide) rfl (by decide) ?_
                refine x_aloadn hX dX12_readStatement_83 rfl ?_
                obtain ⟨M_18, er_17, h⟩ := cl1_of h
                refine x_callVv (t := 11) (As := []) (rest := []) hX dX12_readStatement_84 (c_X12_readPolicy (gk hX) (gl hX) hs M _ er_17) kX12_readPolicy vX12_readPolicy w_2341 (st139 hs) rfl rfl rfl rfl (Nat.le_of_ble_eq_true rfl) z0 ?_
                refine x_goto (tgt := 95) hX dX12_readStatement_87 (by decide) ?_
                exact x_weak [true] rfl (tj_X12_readStatement_95 hX hs M_18 Mr h)
              · replace h := (if_neg hs7).symm.trans h
                refine x_tsO (tgt := 90) hX dX12_readStatement_4 (by omega) (by decide) ?_
                refine x_aloadn hX dX12_readStatement_90 rfl ?_
                refine x_iconst hX dX12_readStatement_91 ?_
                obtain ⟨M_20, er_19, h⟩ := cl1_of h
                refine x_callVv (t := 11) (As := [vi 1]) (rest := []) hX dX12_readStatement_92 (c_X12_fails (gk hX) (gl hX) hs 1 M _ er_19) kX12_fails vX12_fails w_2297 (st139 hs) rfl rfl rfl rfl (Nat.le_of_ble_eq_true rfl) z0 ?_
                exact x_weak [true] rfl (tj_X12_readStatement_95 hX hs M_20 Mr h)
set_option maxRecDepth 100000 in
set_option maxHeartbeats 4000000 in
theorem tj_X12_improve_123_40 {X : Cxt} (hX : Gd X RX12 cX12_improve 5 (some .int) 8) (hs : SOK (xG X))   (x1 : Int) (x2 : Int) (x3 : Int) (M : Mem) {Q : State → Prop} (o : (Int × Mem) ⊕ ((Int × Mem) ⊕ (Int × Mem))) (h : j_X12_improve_123_40 x1 x2 x3 M = some o) (hP : ∀ y, o = .inl y → V X 0 0 Q 40 [some (vr (xG X) 139), some (vi x1), some (vi x2), some (vi y.1), none] [] y.2) (hE : ∀ z, o = .inr (.inl z) → V X 0 0 Q 129 [none, none, none, some (vi z.1), none] [] z.2) (hR : ∀ q, o = .inr (.inr q) → Q = Qn X (some (vi q.1)) q.2) : V X 0 0 Q 123 [some (vr (xG X) 139), some (vi x1), some (vi x2), some (vi x3), none] [] M := by
  unfold j_X12_improve_123_40 at h
  obtain ⟨x3_17, ex3_17, h⟩ := bnd_of h
  refine x_iinc (ls' := [some (vr (xG X) 139), some (vi x1), some (vi x2), some (vi x3_17), none]) hX dX12_improve_123 rfl rfl ex3_17 rfl ?_
  refine x_goto (tgt := 40) hX dX12_improve_126 (by decide) ?_
  exact x_weak [true, true, true, true, false] rfl (hP (x3_17, M) (Option.some.inj h).symm)
set_option maxRecDepth 100000 in
set_option maxHeartbeats 4000000 in
theorem ts_X12_improve_40 {X : Cxt} (hX : Gd X RX12 cX12_improve 5 (some .int) 8) (hs : SOK (xG X))  (x1 : Int) (x2 : Int) (x3 : Int) (M : Mem) {Q : State → Prop} (o : (Int × Mem) ⊕ ((Int × Mem) ⊕ (Int × Mem))) (h : s_X12_improve_40 x1 x2 x3 M = some o) (hP : ∀ y, o = .inl y → V X 0 0 Q 40 [some (vr (xG X) 139), some (vi x1), some (vi x2), some (vi y.1), none] [] y.2) (hE : ∀ z, o = .inr (.inl z) → V X 0 0 Q 129 [none, none, none, some (vi z.1), none] [] z.2) (hR : ∀ q, o = .inr (.inr q) → Q = Qn X (some (vi q.1)) q.2) : V X 0 0 Q 40 [some (vr (xG X) 139), some (vi x1), some (vi x2), some (vi x3), none] [] M := by
  unfold s_X12_improve_40 at h
  refine x_aloadn hX dX12_improve_40 rfl ?_
  refine x_iloadn hX dX12_improve_41 rfl ?_
  refine x_iloadn hX dX12_improve_42 rfl ?_
  obtain ⟨r_4, M_5, er_4, h⟩ := cl2_of h
  refine x_callVi (t := 11) (As := [vi x1, vi x2]) (rest := []) hX dX12_improve_43 (c_X12_seeksMove (gk hX) (gl hX) hs x1 x2 M _ _ er_4) kX12_seeksMove vX12_seeksMove w_1951 (st139 hs) rfl rfl rfl rfl (Nat.le_of_ble_eq_true rfl) z0 ?_
  refine x_if_eq (tgt := 129) hX dX12_improve_46 (by decide) rfl (fun hc => ?_) (fun hc => ?_)
  · replace h := (if_pos hc).symm.trans h
    exact x_weak [false, false, false, true, false] rfl (hE (x3, M_5) (Option.some.inj h).symm)
  · replace h := (if_neg hc).symm.trans h
    refine x_aloadn hX dX12_improve_49 rfl ?_
    refine x_aloadn hX dX12_improve_50 rfl ?_
    refine x_getI hX dX12_improve_51 fl_X12_248 rfl (st139 hs) ?_
    obtain ⟨r_6, er_6, h⟩ := cl1_of h
    refine x_callVi (t := 11) (As := [vi (M_5 139 11)]) (rest := []) hX dX12_improve_54 (c_X12_batchOf (gk hX) (gl hX) hs (M_5 139 11) M_5 _ er_6) kX12_batchOf vX12_batchOf w_1864 (st139 hs) rfl rfl rfl rfl (Nat.le_of_ble_eq_true rfl) z0 ?_
    refine x_istore (ls' := [some (vr (xG X) 139), some (vi x1), some (vi x2), some (vi x3), some (vi r_6)]) hX dX12_improve_57 rfl rfl rfl ?_
    refine x_aloadn hX dX12_improve_59 rfl ?_
    refine x_getRj (j := 140) hX dX12_improve_60 fl_X12_7 rfl (st139 hs) rfl ?_
    refine x_sipush hX dX12_improve_63 sp_461 ?_
    refine x_aloadn hX dX12_improve_66 rfl ?_
    refine x_getI hX dX12_improve_67 fl_X12_251 rfl (st139 hs) ?_
    refine x_iadd hX dX12_improve_70 ?_
    refine x_dup2 hX dX12_improve_71 rfl rfl ?_
    obtain ⟨b_8, h⟩ := gi_of h
    refine x_iald hX dX12_improve_72 (st140 hs) b_8 rfl ?_
    refine x_iconst hX dX12_improve_73 ?_
    refine x_aloadn hX dX12_improve_74 rfl ?_
    refine x_getI hX dX12_improve_75 fl_X12_248 rfl (st139 hs) ?_
    refine x_ishl hX dX12_improve_78 ?_
    refine x_ior hX dX12_improve_79 ?_
    obtain ⟨b_10, h⟩ := gi_of h
    obtain ⟨M_9, eM_9, h⟩ := bnd_of h
    refine x_iast hX dX12_improve_80 (st140 hs) b_10 rfl (x_meq eM_9 ?_)
    refine x_aloadn hX dX12_improve_81 rfl ?_
    refine x_getRj (j := 140) hX dX12_improve_82 fl_X12_7 rfl (st139 hs) rfl ?_
    refine x_sipush hX dX12_improve_85 sp_461 ?_
    refine x_iload hX dX12_improve_88 rfl ?_
    refine x_iadd hX dX12_improve_90 ?_
    refine x_dup2 hX dX12_improve_91 rfl rfl ?_
    obtain ⟨b_11, h⟩ := gi_of h
    refine x_iald hX dX12_improve_92 (st140 hs) b_11 rfl ?_
    refine x_iconst hX dX12_improve_93 ?_
    refine x_aloadn hX dX12_improve_94 rfl ?_
    refine x_getI hX dX12_improve_95 fl_X12_248 rfl (st139 hs) ?_
    refine x_ishl hX dX12_improve_98 ?_
    refine x_iconst hX dX12_improve_99 ?_
    refine x_ixor hX dX12_improve_100 ?_
    refine x_iand hX dX12_improve_101 ?_
    obtain ⟨b_13, h⟩ := gi_of h
    obtain ⟨M_12, eM_12, h⟩ := bnd_of h
    refine x_iast hX dX12_improve_102 (st140 hs) b_13 rfl (x_meq eM_12 ?_)
    refine x_aloadn hX dX12_improve_103 rfl ?_
    refine x_getRj (j := 140) hX dX12_improve_104 fl_X12_7 rfl (st139 hs) rfl ?_
    refine x_sipush hX dX12_improve_107 sp_461 ?_
    refine x_iload hX dX12_improve_110 rfl ?_
    refine x_iadd hX dX12_improve_112 ?_
    obtain ⟨b_14, h⟩ := gi_of h
    refine x_iald hX dX12_improve_113 (st140 hs) b_14 rfl ?_
    refine x_if_ne (tgt := 123) hX dX12_improve_114 (by decide) rfl (fun hc => ?_) (fun hc => ?_)
    · replace h := (if_pos hc).symm.trans h
      refine x_aloadn hX dX12_improve_117 rfl ?_
      refine x_iload hX dX12_improve_118 rfl ?_
      obtain ⟨M_16, er_15, h⟩ := cl1_of h
      refine x_callVv (t := 11) (As := [vi r_6]) (rest := []) hX dX12_improve_120 (c_X12_removes (gk hX) (gl hX) hs r_6 M_12 _ er_15) kX12_removes vX12_removes w_1871 (st139 hs) rfl rfl rfl rfl (Nat.le_of_ble_eq_true rfl) z0 ?_
      exact x_weak [true, true, true, true, false] rfl (tj_X12_improve_123_40 hX hs x1 x2 x3 M_16 o h hP hE hR)
    · replace h := (if_neg hc).symm.trans h
      exact x_weak [true, true, true, true, false] rfl (tj_X12_improve_123_40 hX hs x1 x2 x3 M_12 o h hP hE hR)
set_option maxRecDepth 100000 in
set_option maxHeartbeats 4000000 in
theorem tj_X12_improve_26 {X : Cxt} (hX : Gd X RX12 cX12_improve 5 (some .int) 8) (hs : SOK (xG X))   (x1 : Int) (x2 : Int) (y1 : Int) (M : Mem) (r : Int) (Mr : Mem) (h : j_X12_improve_26 x1 x2 y1 M = some (r, Mr)) : V X 0 0 (Qn X (some (vi r)) Mr) 26 [some (vr (xG X) 139), some (vi x1), some (vi x2), none, none] [vi y1, vr (xG X) 139] M := by
  unfold j_X12_improve_26 at h
  obtain ⟨M_3, eM_3, h⟩ := bnd_of h
  refine x_putI hX dX12_improve_26 fp_X12_70 rfl (st139 hs) (x_meq eM_3 ?_)
  refine x_aloadn hX dX12_improve_29 rfl ?_
  refine x_getI hX dX12_improve_30 fl_X12_70 rfl (st139 hs) ?_
  refine x_if_le (tgt := 38) hX dX12_improve_33 (by decide) rfl (fun hc => ?_) (fun hc => ?_)
  · replace h := (if_pos hc).symm.trans h
    refine x_iconst hX dX12_improve_36 ?_
    cases h
    exact x_iret hX dX12_improve_37 rfl
  · replace h := (if_neg hc).symm.trans h
    refine x_iconst hX dX12_improve_38 ?_
    refine x_istoren (ls' := [some (vr (xG X) 139), some (vi x1), some (vi x2), some (vi 0), none]) hX dX12_improve_39 rfl rfl rfl ?_
    refine x_weak (ls' := [some (vr (xG X) 139), some (vi x1), some (vi x2), some (vi 0), none]) [true, true, true, true, false] rfl ?_
    refine lp_use (x := (0, M_3)) (P := fun x => V X 0 0 (Qn X (some (vi r)) Mr) 40 [some (vr (xG X) 139), some (vi x1), some (vi x2), some (vi x.1), none] [] x.2) (PE := fun z_18 => V X 0 0 (Qn X (some (vi r)) Mr) 129 [none, none, none, some (vi z_18.1), none] [] z_18.2) (PR := fun q => (Qn X (some (vi r)) Mr) = Qn X (some (vi q.1)) q.2) h (fun x o hh hP hE hR => ts_X12_improve_40 hX hs x1 x2 x.1 x.2 o hh hP hE hR) (fun z_18 h => ?_) (fun q h => ?_)
    · show V X 0 0 (Qn X (some (vi r)) Mr) 129 [none, none, none, some (vi z_18.1), none] [] z_18.2
      refine x_iloadn hX dX12_improve_129 rfl ?_
      cases h
      exact x_iret hX dX12_improve_130 rfl
    · cases h; rfl
set_option maxRecDepth 100000 in
set_option maxHeartbeats 4000000 in
theorem tj_X12_improve_25 {X : Cxt} (hX : Gd X RX12 cX12_improve 5 (some .int) 8) (hs : SOK (xG X))   (x1 : Int) (x2 : Int) (M : Mem) (r : Int) (Mr : Mem) (h : j_X12_improve_25 x1 x2 M = some (r, Mr)) : V X 0 0 (Qn X (some (vi r)) Mr) 25 [some (vr (xG X) 139), some (vi x1), some (vi x2), none, none] [vr (xG X) 139] M := by
  unfold j_X12_improve_25 at h
  refine x_iconst hX dX12_improve_25 ?_
  exact x_weak [true, true, true, false, false] rfl (tj_X12_improve_26 hX hs x1 x2 1 M r Mr h)
set_option maxRecDepth 100000 in
set_option maxHeartbeats 4000000 in
theorem c_X12_improve {l : Launch} {G : Gx} (hG : GOK G) (hl : l.stackTraces = false) (hs : SOK G)  (x1 : Int) (x2 : Int) (M : Mem) (r : Int) (Mr : Mem) (h : f_X12_improve x1 x2 M = some (r, Mr)) : Cn l G mX12_improve 8 [vr G 139, vi x1, vi x2] M (some (vi r)) Mr := by
  refine Cn_of2 (ls := [some (vr G 139), some (vi x1), some (vi x2), none, none]) hG hl kX12_improve rfl (Nat.le_of_ble_eq_true rfl) rfl rfl rfl rfl rfl (fun X eG el hX => ?_)
  subst eG; subst el
  unfold f_X12_improve at h
  refine x_aloadn hX dX12_improve_0 rfl ?_
  refine x_iloadn hX dX12_improve_1 rfl ?_
  refine x_iconst hX dX12_improve_2 ?_
  refine x_bipush hX dX12_improve_3 bp_6 ?_
  obtain ⟨r_1, er_1, h⟩ := cl1_of h
  refine x_callSi (As := [vi x1, vi 1, vi 6]) (rest := [vr (xG X) 139]) hX dX12_improve_5 (c_X12_in (gk hX) (gl hX) x1 1 6 M _ er_1) kX12_in sX12_in w_1735 rfl rfl rfl (Nat.le_of_ble_eq_true rfl) z0 ?_
  refine x_if_eq (tgt := 25) hX dX12_improve_8 (by decide) rfl (fun hc => ?_) (fun hc => ?_)
  · replace h := (if_pos hc).symm.trans h
    exact x_weak [true, true, true, false, false] rfl (tj_X12_improve_25 hX hs x1 x2 M r Mr h)
  · replace h := (if_neg hc).symm.trans h
    refine x_iloadn hX dX12_improve_11 rfl ?_
    refine x_iconst hX dX12_improve_12 ?_
    refine x_ldc hX dX12_improve_13 w_1879 ?_
    obtain ⟨r_19, er_19, h⟩ := cl1_of h
    refine x_callSi (As := [vi x2, vi 1, vi 99999]) (rest := [vr (xG X) 139]) hX dX12_improve_15 (c_X12_in (gk hX) (gl hX) x2 1 99999 M _ er_19) kX12_in sX12_in w_1735 rfl rfl rfl (Nat.le_of_ble_eq_true rfl) z0 ?_
    refine x_if_eq (tgt := 25) hX dX12_improve_18 (by decide) rfl (fun hc => ?_) (fun hc => ?_)
    · replace h := (if_pos hc).symm.trans h
      exact x_weak [true, true, true, false, false] rfl (tj_X12_improve_25 hX hs x1 x2 M r Mr h)
    · replace h := (if_neg hc).symm.trans h
      refine x_iconst hX dX12_improve_21 ?_
      refine x_goto (tgt := 26) hX dX12_improve_22 (by decide) ?_
      exact x_weak [true, true, true, false, false] rfl (tj_X12_improve_26 hX hs x1 x2 0 M r Mr h)
set_option maxRecDepth 100000 in
set_option maxHeartbeats 4000000 in
theorem c_X12_laysSchedule {l : Launch} {G : Gx} (hG : GOK G) (hl : l.stackTraces = false) (hs : SOK G)  (M : Mem) (Mr : Mem) (h : f_X12_laysSchedule M = some Mr) : Cn l G mX12_laysSchedule 8 [vr G 139] M none Mr := by
  refine Cn_of2 (ls := [some (vr G 139)]) hG hl kX12_laysSchedule rfl (Nat.le_of_ble_eq_true rfl) rfl rfl rfl rfl rfl (fun X eG el hX => ?_)
  subst eG; subst el
  unfold f_X12_laysSchedule at h
  refine x_aloadn hX dX12_laysSchedule_0 rfl ?_
  obtain ⟨M_2, er_1, h⟩ := cl1_of h
  refine x_callVv (t := 11) (As := []) (rest := []) hX dX12_laysSchedule_1 (c_X12_laysWork (gk hX) (gl hX) hs M _ er_1) kX12_laysWork vX12_laysWork w_2123 (st139 hs) rfl rfl rfl rfl (Nat.le_of_ble_eq_true rfl) z0 ?_
  refine x_aloadn hX dX12_laysSchedule_4 rfl ?_
  obtain ⟨M_4, er_3, h⟩ := cl1_of h
  refine x_callVv (t := 11) (As := []) (rest := []) hX dX12_laysSchedule_5 (c_X12_laysTimes (gk hX) (gl hX) hs M_2 _ er_3) kX12_laysTimes vX12_laysTimes w_2127 (st139 hs) rfl rfl rfl rfl (Nat.le_of_ble_eq_true rfl) z0 ?_
  cases h
  exact x_vret hX dX12_laysSchedule_8 rfl
set_option maxRecDepth 100000 in
set_option maxHeartbeats 4000000 in
theorem ts_X12_load_45 {X : Cxt} (hX : Gd X RX12 cX12_load 1 (some .int) 8) (hs : SOK (xG X))  (M : Mem) {Q : State → Prop} (o : (Mem) ⊕ ((Mem) ⊕ (Int × Mem))) (h : s_X12_load_45 M = some o) (hP : ∀ y, o = .inl y → V X 0 0 Q 45 [some (vr (xG X) 139)] [] y) (hE : ∀ z, o = .inr (.inl z) → V X 0 0 Q 66 [some (vr (xG X) 139)] [] z) (hR : ∀ q, o = .inr (.inr q) → Q = Qn X (some (vi q.1)) q.2) : V X 0 0 Q 45 [some (vr (xG X) 139)] [] M := by
  unfold s_X12_load_45 at h
  refine x_aloadn hX dX12_load_45 rfl ?_
  obtain ⟨r_13, er_13, h⟩ := cl1_of h
  refine x_callVi (t := 11) (As := []) (rest := []) hX dX12_load_46 (c_X12_isWell (gk hX) (gl hX) hs M _ er_13) kX12_isWell vX12_isWell w_2305 (st139 hs) rfl rfl rfl rfl (Nat.le_of_ble_eq_true rfl) z0 ?_
  refine x_if_eq (tgt := 66) hX dX12_load_49 (by decide) rfl (fun hc => ?_) (fun hc => ?_)
  · replace h := (if_pos hc).symm.trans h
    exact x_weak [true] rfl (hE M (Option.some.inj h).symm)
  · replace h := (if_neg hc).symm.trans h
    refine x_aloadn hX dX12_load_52 rfl ?_
    refine x_getI hX dX12_load_53 fl_X12_371 rfl (st139 hs) ?_
    refine x_if_eq (tgt := 66) hX dX12_load_56 (by decide) rfl (fun hc => ?_) (fun hc => ?_)
    · replace h := (if_pos hc).symm.trans h
      exact x_weak [true] rfl (hE M (Option.some.inj h).symm)
    · replace h := (if_neg hc).symm.trans h
      refine x_aloadn hX dX12_load_59 rfl ?_
      obtain ⟨M_16, er_15, h⟩ := cl1_of h
      refine x_callVv (t := 11) (As := []) (rest := []) hX dX12_load_60 (c_X12_readStatement (gk hX) (gl hX) hs M _ er_15) kX12_readStatement vX12_readStatement w_2313 (st139 hs) rfl rfl rfl rfl (Nat.le_of_ble_eq_true rfl) z0 ?_
      refine x_goto (tgt := 45) hX dX12_load_63 (by decide) ?_
      exact x_weak [true] rfl (hP M_16 (Option.some.inj h).symm)
set_option maxRecDepth 100000 in
set_option maxHeartbeats 4000000 in
theorem tj_X12_load_66 {X : Cxt} (hX : Gd X RX12 cX12_load 1 (some .int) 8) (hs : SOK (xG X))   (M : Mem) (r : Int) (Mr : Mem) (h : j_X12_load_66 M = some (r, Mr)) : V X 0 0 (Qn X (some (vi r)) Mr) 66 [some (vr (xG X) 139)] [] M := by
  unfold j_X12_load_66 at h
  refine x_aloadn hX dX12_load_66 rfl ?_
  refine x_iconst hX dX12_load_67 ?_
  obtain ⟨M_18, eM_18, h⟩ := bnd_of h
  refine x_putI hX dX12_load_68 fp_X12_353 rfl (st139 hs) (x_meq eM_18 ?_)
  refine x_aloadn hX dX12_load_71 rfl ?_
  obtain ⟨r_19, er_19, h⟩ := cl1_of h
  refine x_callVi (t := 11) (As := []) (rest := []) hX dX12_load_72 (c_X12_isWell (gk hX) (gl hX) hs M_18 _ er_19) kX12_isWell vX12_isWell w_2305 (st139 hs) rfl rfl rfl rfl (Nat.le_of_ble_eq_true rfl) z0 ?_
  refine x_if_ne (tgt := 93) hX dX12_load_75 (by decide) rfl (fun hc => ?_) (fun hc => ?_)
  · replace h := (if_pos hc).symm.trans h
    refine x_aloadn hX dX12_load_78 rfl ?_
    refine x_getRj (j := 141) hX dX12_load_79 fl_X12_13 rfl (st139 hs) rfl ?_
    refine x_iconst hX dX12_load_82 ?_
    refine x_aloadn hX dX12_load_83 rfl ?_
    refine x_getRj (j := 140) hX dX12_load_84 fl_X12_7 rfl (st139 hs) rfl ?_
    refine x_iconst hX dX12_load_87 ?_
    obtain ⟨M_22, er_21, h⟩ := cl1_of h
    refine x_callSv (As := [vr (xG X) 141, vi 0, vr (xG X) 140, vi 0]) (rest := []) hX dX12_load_88 (c_X12_copies (gk hX) (gl hX) (st141 hs) (st140 hs) 0 0 M_18 _ er_21) kX12_copies sX12_copies w_2269 rfl rfl rfl (Nat.le_of_ble_eq_true rfl) z0 ?_
    refine x_iconst hX dX12_load_91 ?_
    cases h
    exact x_iret hX dX12_load_92 rfl
  · replace h := (if_neg hc).symm.trans h
    refine x_aloadn hX dX12_load_93 rfl ?_
    refine x_getRj (j := 140) hX dX12_load_94 fl_X12_7 rfl (st139 hs) rfl ?_
    refine x_iconst hX dX12_load_97 ?_
    refine x_iald hX dX12_load_98 (st140 hs) inc_4_469 ixc_4 ?_
    cases h
    exact x_iret hX dX12_load_99 rfl
set_option maxRecDepth 100000 in
set_option maxHeartbeats 4000000 in
theorem c_X12_load {l : Launch} {G : Gx} (hG : GOK G) (hl : l.stackTraces = false) (hs : SOK G)  (M : Mem) (r : Int) (Mr : Mem) (h : f_X12_load M = some (r, Mr)) : Cn l G mX12_load 8 [vr G 139] M (some (vi r)) Mr := by
  refine Cn_of2 (ls := [some (vr G 139)]) hG hl kX12_load rfl (Nat.le_of_ble_eq_true rfl) rfl rfl rfl rfl rfl (fun X eG el hX => ?_)
  subst eG; subst el
  unfold f_X12_load at h
  refine x_aloadn hX dX12_load_0 rfl ?_
  refine x_iconst hX dX12_load_1 ?_
  obtain ⟨M_1, eM_1, h⟩ := bnd_of h
  refine x_putI hX dX12_load_2 fp_X12_70 rfl (st139 hs) (x_meq eM_1 ?_)
  refine x_aloadn hX dX12_load_5 rfl ?_
  refine x_getRj (j := 140) hX dX12_load_6 fl_X12_7 rfl (st139 hs) rfl ?_
  refine x_iconst hX dX12_load_9 ?_
  refine x_aloadn hX dX12_load_10 rfl ?_
  refine x_getRj (j := 141) hX dX12_load_11 fl_X12_13 rfl (st139 hs) rfl ?_
  refine x_iconst hX dX12_load_14 ?_
  obtain ⟨M_3, er_2, h⟩ := cl1_of h
  refine x_callSv (As := [vr (xG X) 140, vi 0, vr (xG X) 141, vi 0]) (rest := []) hX dX12_load_15 (c_X12_copies (gk hX) (gl hX) (st140 hs) (st141 hs) 0 0 M_1 _ er_2) kX12_copies sX12_copies w_2269 rfl rfl rfl (Nat.le_of_ble_eq_true rfl) z0 ?_
  refine x_aloadn hX dX12_load_18 rfl ?_
  obtain ⟨M_5, er_4, h⟩ := cl1_of h
  refine x_callVv (t := 11) (As := []) (rest := []) hX dX12_load_19 (c_X12_begins (gk hX) (gl hX) hs M_3 _ er_4) kX12_begins vX12_begins w_1628 (st139 hs) rfl rfl rfl rfl (Nat.le_of_ble_eq_true rfl) z0 ?_
  refine x_aloadn hX dX12_load_22 rfl ?_
  refine x_iconst hX dX12_load_23 ?_
  obtain ⟨M_6, eM_6, h⟩ := bnd_of h
  refine x_putI hX dX12_load_24 fp_X12_356 rfl (st139 hs) (x_meq eM_6 ?_)
  refine x_aloadn hX dX12_load_27 rfl ?_
  refine x_iconst hX dX12_load_28 ?_
  obtain ⟨M_7, eM_7, h⟩ := bnd_of h
  refine x_putI hX dX12_load_29 fp_X12_378 rfl (st139 hs) (x_meq eM_7 ?_)
  refine x_aloadn hX dX12_load_32 rfl ?_
  refine x_iconst hX dX12_load_33 ?_
  obtain ⟨M_8, eM_8, h⟩ := bnd_of h
  refine x_putI hX dX12_load_34 fp_X12_60 rfl (st139 hs) (x_meq eM_8 ?_)
  refine x_aloadn hX dX12_load_37 rfl ?_
  obtain ⟨M_10, er_9, h⟩ := cl1_of h
  refine x_callVv (t := 11) (As := []) (rest := []) hX dX12_load_38 (c_X12_next (gk hX) (gl hX) hs M_8 _ er_9) kX12_next vX12_next w_2272 (st139 hs) rfl rfl rfl rfl (Nat.le_of_ble_eq_true rfl) z0 ?_
  refine x_aloadn hX dX12_load_41 rfl ?_
  obtain ⟨M_12, er_11, h⟩ := cl1_of h
  refine x_callVv (t := 11) (As := []) (rest := []) hX dX12_load_42 (c_X12_readHall (gk hX) (gl hX) hs M_10 _ er_11) kX12_readHall vX12_readHall w_2289 (st139 hs) rfl rfl rfl rfl (Nat.le_of_ble_eq_true rfl) z0 ?_
  refine x_weak (ls' := [some (vr (xG X) 139)]) [true] rfl ?_
  refine lp_use (x := M_12) (P := fun x => V X 0 0 (Qn X (some (vi r)) Mr) 45 [some (vr (xG X) 139)] [] x) (PE := fun z_17 => V X 0 0 (Qn X (some (vi r)) Mr) 66 [some (vr (xG X) 139)] [] z_17) (PR := fun q => (Qn X (some (vi r)) Mr) = Qn X (some (vi q.1)) q.2) h (fun x o hh hP hE hR => ts_X12_load_45 hX hs x o hh hP hE hR) (fun z_17 h => ?_) (fun q h => ?_)
  · show V X 0 0 (Qn X (some (vi r)) Mr) 66 [some (vr (xG X) 139)] [] z_17
    exact x_weak [true] rfl (tj_X12_load_66 hX hs z_17 r Mr h)
  · cases h; rfl
set_option maxRecDepth 100000 in
set_option maxHeartbeats 4000000 in
theorem tj_X12_isPartLaid_15 {X : Cxt} (hX : Gd X RX12 cX12_isPartLaid 3 (some .boolean) 9) (hs : SOK (xG X))   (y1 : Int) (M : Mem) (r : Int) (Mr : Mem) (h : j_X12_isPartLaid_15 y1 M = some (r, Mr)) : V X 0 0 (Qn X (some (vi r)) Mr) 15 [some (vr (xG X) 139), none, none] [vi y1, vr (xG X) 139] M := by
  unfold j_X12_isPartLaid_15 at h
  obtain ⟨M_3, eM_3, h⟩ := bnd_of h
  refine x_putI hX dX12_isPartLaid_15 fp_X12_70 rfl (st139 hs) (x_meq eM_3 ?_)
  refine x_aloadn hX dX12_isPartLaid_18 rfl ?_
  refine x_getI hX dX12_isPartLaid_19 fl_X12_70 rfl (st139 hs) ?_
  refine x_if_le (tgt := 27) hX dX12_isPartLaid_22 (by decide) rfl (fun hc => ?_) (fun hc => ?_)
  · replace h := (if_pos hc).symm.trans h
    refine x_iconst hX dX12_isPartLaid_25 ?_
    cases h
    exact x_zret hX dX12_isPartLaid_26 (Or.inl cw_0) rfl
  · replace h := (if_neg hc).symm.trans h
    refine x_aloadn hX dX12_isPartLaid_27 rfl ?_
    obtain ⟨M_5, er_4, h⟩ := cl1_of h
    refine x_callVv (t := 11) (As := []) (rest := []) hX dX12_isPartLaid_28 (c_X12_laysSchedule (gk hX) (gl hX) hs M_3 _ er_4) kX12_laysSchedule vX12_laysSchedule w_2119 (st139 hs) rfl rfl rfl rfl (Nat.le_of_ble_eq_true rfl) z0 ?_
    refine x_iconst hX dX12_isPartLaid_31 ?_
    cases h
    exact x_zret hX dX12_isPartLaid_32 (Or.inr cw_1) rfl
set_option maxRecDepth 100000 in
set_option maxHeartbeats 4000000 in
theorem c_X12_isPartLaid {l : Launch} {G : Gx} (hG : GOK G) (hl : l.stackTraces = false) (hs : SOK G)  (x1 : Int) (x2 : Int) (M : Mem) (r : Int) (Mr : Mem) (h : f_X12_isPartLaid x1 x2 M = some (r, Mr)) : Cn l G mX12_isPartLaid 9 [vr G 139, vi x1, vi x2] M (some (vi r)) Mr := by
  refine Cn_of2 (ls := [some (vr G 139), some (vi x1), some (vi x2)]) hG hl kX12_isPartLaid rfl (Nat.le_of_ble_eq_true rfl) rfl rfl rfl rfl rfl (fun X eG el hX => ?_)
  subst eG; subst el
  unfold f_X12_isPartLaid at h
  refine x_aloadn hX dX12_isPartLaid_0 rfl ?_
  refine x_aloadn hX dX12_isPartLaid_1 rfl ?_
  refine x_iloadn hX dX12_isPartLaid_2 rfl ?_
  refine x_iloadn hX dX12_isPartLaid_3 rfl ?_
  obtain ⟨r_1, er_1, h⟩ := cl1_of h
  refine x_callVi (t := 11) (As := [vi x1, vi x2]) (rest := [vr (xG X) 139]) hX dX12_isPartLaid_4 (c_X12_isPart (gk hX) (gl hX) hs x1 x2 M _ er_1) kX12_isPart vX12_isPart w_2051 (st139 hs) rfl rfl rfl rfl (Nat.le_of_ble_eq_true rfl) z0 ?_
  refine x_if_eq (tgt := 14) hX dX12_isPartLaid_7 (by decide) rfl (fun hc => ?_) (fun hc => ?_)
  · replace h := (if_pos hc).symm.trans h
    refine x_iconst hX dX12_isPartLaid_14 ?_
    exact x_weak [true, false, false] rfl (tj_X12_isPartLaid_15 hX hs 1 M r Mr h)
  · replace h := (if_neg hc).symm.trans h
    refine x_iconst hX dX12_isPartLaid_10 ?_
    refine x_goto (tgt := 15) hX dX12_isPartLaid_11 (by decide) ?_
    exact x_weak [true, false, false] rfl (tj_X12_isPartLaid_15 hX hs 0 M r Mr h)
set_option maxRecDepth 100000 in
set_option maxHeartbeats 4000000 in
theorem ts_X12_blockedTime_34 {X : Cxt} (hX : Gd X RX12 cX12_blockedTime 5 (some .int) 9) (hs : SOK (xG X))  (x1 : Int) (M : Mem) (x2 : Int) (x3 : Int) {Q : State → Prop} (o : (Int × Int) ⊕ ((Int) ⊕ (Int × Mem))) (h : s_X12_blockedTime_34 x1 M x2 x3 = some o) (hP : ∀ y, o = .inl y → V X 0 0 Q 34 [some (vr (xG X) 139), some (vi x1), some (vi y.1), some (vi y.2), none] [] M) (hE : ∀ z, o = .inr (.inl z) → V X 0 0 Q 83 [none, none, some (vi z), none, none] [] M) (hR : ∀ q, o = .inr (.inr q) → Q = Qn X (some (vi q.1)) q.2) : V X 0 0 Q 34 [some (vr (xG X) 139), some (vi x1), some (vi x2), some (vi x3), none] [] M := by
  unfold s_X12_blockedTime_34 at h
  refine x_iloadn hX dX12_blockedTime_34 rfl ?_
  refine x_aloadn hX dX12_blockedTime_35 rfl ?_
  refine x_getRj (j := 140) hX dX12_blockedTime_36 fl_X12_7 rfl (st139 hs) rfl ?_
  refine x_iconst hX dX12_blockedTime_39 ?_
  refine x_iald hX dX12_blockedTime_40 (st140 hs) inc_5_469 ixc_5 ?_
  refine x_icmp_ge (tgt := 83) hX dX12_blockedTime_41 (by decide) rfl rfl (fun hc => ?_) (fun hc => ?_)
  · replace h := (if_pos hc).symm.trans h
    refine x_iconst hX dX12_blockedTime_44 ?_
    refine x_iloadn hX dX12_blockedTime_45 rfl ?_
    refine x_imul hX dX12_blockedTime_46 ?_
    refine x_iloadn hX dX12_blockedTime_47 rfl ?_
    refine x_iadd hX dX12_blockedTime_48 ?_
    obtain ⟨x4_6, ex4_6, h⟩ := bnd_of h
    refine x_istore (ls' := [some (vr (xG X) 139), some (vi x1), some (vi x2), some (vi x3), some (vi x4_6)]) hX dX12_blockedTime_49 rfl ex4_6 rfl ?_
    refine x_iloadn hX dX12_blockedTime_51 rfl ?_
    refine x_aloadn hX dX12_blockedTime_52 rfl ?_
    refine x_getRj (j := 151) hX dX12_blockedTime_53 fl_X12_44 rfl (st139 hs) rfl ?_
    refine x_iload hX dX12_blockedTime_56 rfl ?_
    obtain ⟨b_7, h⟩ := gi_of h
    refine x_iald hX dX12_blockedTime_58 (st151 hs) b_7 rfl ?_
    refine x_aloadn hX dX12_blockedTime_59 rfl ?_
    refine x_getRj (j := 150) hX dX12_blockedTime_60 fl_X12_41 rfl (st139 hs) rfl ?_
    refine x_iload hX dX12_blockedTime_63 rfl ?_
    obtain ⟨b_8, h⟩ := gi_of h
    refine x_iald hX dX12_blockedTime_65 (st150 hs) b_8 rfl ?_
    refine x_isub hX dX12_blockedTime_66 ?_
    refine x_aloadn hX dX12_blockedTime_67 rfl ?_
    refine x_getRj (j := 148) hX dX12_blockedTime_68 fl_X12_35 rfl (st139 hs) rfl ?_
    refine x_iload hX dX12_blockedTime_71 rfl ?_
    obtain ⟨b_9, h⟩ := gi_of h
    refine x_iald hX dX12_blockedTime_73 (st148 hs) b_9 rfl ?_
    refine x_isub hX dX12_blockedTime_74 ?_
    refine x_iadd hX dX12_blockedTime_75 ?_
    obtain ⟨x2_10, ex2_10, h⟩ := bnd_of h
    refine x_istoren (ls' := [some (vr (xG X) 139), some (vi x1), some (vi x2_10), some (vi x3), some (vi x4_6)]) hX dX12_blockedTime_76 rfl ex2_10 rfl ?_
    obtain ⟨x3_11, ex3_11, h⟩ := bnd_of h
    refine x_iinc (ls' := [some (vr (xG X) 139), some (vi x1), some (vi x2_10), some (vi x3_11), some (vi x4_6)]) hX dX12_blockedTime_77 rfl rfl ex3_11 rfl ?_
    refine x_goto (tgt := 34) hX dX12_blockedTime_80 (by decide) ?_
    exact x_weak [true, true, true, true, false] rfl (hP (x2_10, x3_11) (Option.some.inj h).symm)
  · replace h := (if_neg hc).symm.trans h
    exact x_weak [false, false, true, false, false] rfl (hE x2 (Option.some.inj h).symm)
set_option maxRecDepth 100000 in
set_option maxHeartbeats 4000000 in
theorem tj_X12_blockedTime_14 {X : Cxt} (hX : Gd X RX12 cX12_blockedTime 5 (some .int) 9) (hs : SOK (xG X))   (x1 : Int) (y1 : Int) (M : Mem) (r : Int) (Mr : Mem) (h : j_X12_blockedTime_14 x1 y1 M = some (r, Mr)) : V X 0 0 (Qn X (some (vi r)) Mr) 14 [some (vr (xG X) 139), some (vi x1), none, none, none] [vi y1, vr (xG X) 139] M := by
  unfold j_X12_blockedTime_14 at h
  obtain ⟨M_3, eM_3, h⟩ := bnd_of h
  refine x_putI hX dX12_blockedTime_14 fp_X12_70 rfl (st139 hs) (x_meq eM_3 ?_)
  refine x_aloadn hX dX12_blockedTime_17 rfl ?_
  refine x_getI hX dX12_blockedTime_18 fl_X12_70 rfl (st139 hs) ?_
  refine x_if_le (tgt := 26) hX dX12_blockedTime_21 (by decide) rfl (fun hc => ?_) (fun hc => ?_)
  · replace h := (if_pos hc).symm.trans h
    refine x_iconst hX dX12_blockedTime_24 ?_
    cases h
    exact x_iret hX dX12_blockedTime_25 rfl
  · replace h := (if_neg hc).symm.trans h
    refine x_aloadn hX dX12_blockedTime_26 rfl ?_
    obtain ⟨M_5, er_4, h⟩ := cl1_of h
    refine x_callVv (t := 11) (As := []) (rest := []) hX dX12_blockedTime_27 (c_X12_laysSchedule (gk hX) (gl hX) hs M_3 _ er_4) kX12_laysSchedule vX12_laysSchedule w_2119 (st139 hs) rfl rfl rfl rfl (Nat.le_of_ble_eq_true rfl) z0 ?_
    refine x_iconst hX dX12_blockedTime_30 ?_
    refine x_istoren (ls' := [some (vr (xG X) 139), some (vi x1), some (vi 0), none, none]) hX dX12_blockedTime_31 rfl rfl rfl ?_
    refine x_iconst hX dX12_blockedTime_32 ?_
    refine x_istoren (ls' := [some (vr (xG X) 139), some (vi x1), some (vi 0), some (vi 0), none]) hX dX12_blockedTime_33 rfl rfl rfl ?_
    refine x_weak (ls' := [some (vr (xG X) 139), some (vi x1), some (vi 0), some (vi 0), none]) [true, true, true, true, false] rfl ?_
    refine lp_use (x := (0, 0)) (P := fun x => V X 0 0 (Qn X (some (vi r)) Mr) 34 [some (vr (xG X) 139), some (vi x1), some (vi x.1), some (vi x.2), none] [] M_5) (PE := fun z_12 => V X 0 0 (Qn X (some (vi r)) Mr) 83 [none, none, some (vi z_12), none, none] [] M_5) (PR := fun q => (Qn X (some (vi r)) Mr) = Qn X (some (vi q.1)) q.2) h (fun x o hh hP hE hR => ts_X12_blockedTime_34 hX hs x1 M_5 x.1 x.2 o hh hP hE hR) (fun z_12 h => ?_) (fun q h => ?_)
    · show V X 0 0 (Qn X (some (vi r)) Mr) 83 [none, none, some (vi z_12), none, none] [] M_5
      refine x_iloadn hX dX12_blockedTime_83 rfl ?_
      cases h
      exact x_iret hX dX12_blockedTime_84 rfl
    · cases h; rfl
set_option maxRecDepth 100000 in
set_option maxHeartbeats 4000000 in
theorem c_X12_blockedTime {l : Launch} {G : Gx} (hG : GOK G) (hl : l.stackTraces = false) (hs : SOK G)  (x1 : Int) (M : Mem) (r : Int) (Mr : Mem) (h : f_X12_blockedTime x1 M = some (r, Mr)) : Cn l G mX12_blockedTime 9 [vr G 139, vi x1] M (some (vi r)) Mr := by
  refine Cn_of2 (ls := [some (vr G 139), some (vi x1), none, none, none]) hG hl kX12_blockedTime rfl (Nat.le_of_ble_eq_true rfl) rfl rfl rfl rfl rfl (fun X eG el hX => ?_)
  subst eG; subst el
  unfold f_X12_blockedTime at h
  refine x_aloadn hX dX12_blockedTime_0 rfl ?_
  refine x_aloadn hX dX12_blockedTime_1 rfl ?_
  refine x_iloadn hX dX12_blockedTime_2 rfl ?_
  obtain ⟨r_1, er_1, h⟩ := cl1_of h
  refine x_callVi (t := 11) (As := [vi x1]) (rest := [vr (xG X) 139]) hX dX12_blockedTime_3 (c_X12_isZone (gk hX) (gl hX) hs x1 M _ er_1) kX12_isZone vX12_isZone w_2055 (st139 hs) rfl rfl rfl rfl (Nat.le_of_ble_eq_true rfl) z0 ?_
  refine x_if_eq (tgt := 13) hX dX12_blockedTime_6 (by decide) rfl (fun hc => ?_) (fun hc => ?_)
  · replace h := (if_pos hc).symm.trans h
    refine x_iconst hX dX12_blockedTime_13 ?_
    exact x_weak [true, true, false, false, false] rfl (tj_X12_blockedTime_14 hX hs x1 1 M r Mr h)
  · replace h := (if_neg hc).symm.trans h
    refine x_iconst hX dX12_blockedTime_9 ?_
    refine x_goto (tgt := 14) hX dX12_blockedTime_10 (by decide) ?_
    exact x_weak [true, true, false, false, false] rfl (tj_X12_blockedTime_14 hX hs x1 0 M r Mr h)
set_option maxRecDepth 100000 in
set_option maxHeartbeats 4000000 in
theorem c_X12_makespan {l : Launch} {G : Gx} (hG : GOK G) (hl : l.stackTraces = false) (hs : SOK G)  (M : Mem) (r : Int) (Mr : Mem) (h : f_X12_makespan M = some (r, Mr)) : Cn l G mX12_makespan 9 [vr G 139] M (some (vi r)) Mr := by
  refine Cn_of2 (ls := [some (vr G 139)]) hG hl kX12_makespan rfl (Nat.le_of_ble_eq_true rfl) rfl rfl rfl rfl rfl (fun X eG el hX => ?_)
  subst eG; subst el
  unfold f_X12_makespan at h
  refine x_aloadn hX dX12_makespan_0 rfl ?_
  refine x_iconst hX dX12_makespan_1 ?_
  obtain ⟨M_1, eM_1, h⟩ := bnd_of h
  refine x_putI hX dX12_makespan_2 fp_X12_70 rfl (st139 hs) (x_meq eM_1 ?_)
  refine x_aloadn hX dX12_makespan_5 rfl ?_
  obtain ⟨M_3, er_2, h⟩ := cl1_of h
  refine x_callVv (t := 11) (As := []) (rest := []) hX dX12_makespan_6 (c_X12_laysSchedule (gk hX) (gl hX) hs M_1 _ er_2) kX12_laysSchedule vX12_laysSchedule w_2119 (st139 hs) rfl rfl rfl rfl (Nat.le_of_ble_eq_true rfl) z0 ?_
  refine x_aloadn hX dX12_makespan_9 rfl ?_
  refine x_getRj (j := 140) hX dX12_makespan_10 fl_X12_7 rfl (st139 hs) rfl ?_
  refine x_iconst hX dX12_makespan_13 ?_
  refine x_iald hX dX12_makespan_14 (st140 hs) inc_5_469 ixc_5 ?_
  refine x_if_ne (tgt := 22) hX dX12_makespan_15 (by decide) rfl (fun hc => ?_) (fun hc => ?_)
  · replace h := (if_pos hc).symm.trans h
    refine x_iconst hX dX12_makespan_18 ?_
    refine x_goto (tgt := 34) hX dX12_makespan_19 (by decide) ?_
    cases h
    exact x_iret hX dX12_makespan_34 rfl
  · replace h := (if_neg hc).symm.trans h
    refine x_aloadn hX dX12_makespan_22 rfl ?_
    refine x_aloadn hX dX12_makespan_23 rfl ?_
    refine x_getRj (j := 140) hX dX12_makespan_24 fl_X12_7 rfl (st139 hs) rfl ?_
    refine x_iconst hX dX12_makespan_27 ?_
    refine x_iald hX dX12_makespan_28 (st140 hs) inc_5_469 ixc_5 ?_
    refine x_iconst hX dX12_makespan_29 ?_
    refine x_isub hX dX12_makespan_30 ?_
    obtain ⟨r_4, er_4, h⟩ := cl1_of h
    refine x_callVi (t := 11) (As := [vi ((M_3 140 5) - 1)]) (rest := []) hX dX12_makespan_31 (c_X12_completes (gk hX) (gl hX) hs ((M_3 140 5) - 1) M_3 _ er_4) kX12_completes vX12_completes w_2154 (st139 hs) rfl rfl rfl rfl (Nat.le_of_ble_eq_true rfl) z0 ?_
    cases h
    exact x_iret hX dX12_makespan_34 rfl
set_option maxRecDepth 100000 in
set_option maxHeartbeats 4000000 in
theorem tj_X12_lateness_28 {X : Cxt} (hX : Gd X RX12 cX12_lateness 2 (some .int) 9) (hs : SOK (xG X))   (x1 : Int) (y1 : Int) (M : Mem) (r : Int) (Mr : Mem) (h : j_X12_lateness_28 x1 y1 M = some (r, Mr)) : V X 0 0 (Qn X (some (vi r)) Mr) 28 [some (vr (xG X) 139), some (vi x1)] [vi y1, vr (xG X) 139] M := by
  unfold j_X12_lateness_28 at h
  obtain ⟨M_3, eM_3, h⟩ := bnd_of h
  refine x_putI hX dX12_lateness_28 fp_X12_70 rfl (st139 hs) (x_meq eM_3 ?_)
  refine x_aloadn hX dX12_lateness_31 rfl ?_
  refine x_getI hX dX12_lateness_32 fl_X12_70 rfl (st139 hs) ?_
  refine x_if_le (tgt := 40) hX dX12_lateness_35 (by decide) rfl (fun hc => ?_) (fun hc => ?_)
  · replace h := (if_pos hc).symm.trans h
    refine x_iconst hX dX12_lateness_38 ?_
    cases h
    exact x_iret hX dX12_lateness_39 rfl
  · replace h := (if_neg hc).symm.trans h
    refine x_aloadn hX dX12_lateness_40 rfl ?_
    obtain ⟨M_5, er_4, h⟩ := cl1_of h
    refine x_callVv (t := 11) (As := []) (rest := []) hX dX12_lateness_41 (c_X12_laysSchedule (gk hX) (gl hX) hs M_3 _ er_4) kX12_laysSchedule vX12_laysSchedule w_2119 (st139 hs) rfl rfl rfl rfl (Nat.le_of_ble_eq_true rfl) z0 ?_
    refine x_aloadn hX dX12_lateness_44 rfl ?_
    refine x_aloadn hX dX12_lateness_45 rfl ?_
    refine x_iloadn hX dX12_lateness_46 rfl ?_
    obtain ⟨r_6, er_6, h⟩ := cl1_of h
    refine x_callVi (t := 11) (As := [vi x1]) (rest := [vr (xG X) 139]) hX dX12_lateness_47 (c_X12_batchOf (gk hX) (gl hX) hs x1 M_5 _ er_6) kX12_batchOf vX12_batchOf w_1864 (st139 hs) rfl rfl rfl rfl (Nat.le_of_ble_eq_true rfl) z0 ?_
    obtain ⟨r_8, er_8, h⟩ := cl1_of h
    refine x_callVi (t := 11) (As := [vi r_6]) (rest := []) hX dX12_lateness_50 (c_X12_completes (gk hX) (gl hX) hs r_6 M_5 _ er_8) kX12_completes vX12_completes w_2154 (st139 hs) rfl rfl rfl rfl (Nat.le_of_ble_eq_true rfl) z0 ?_
    refine x_aloadn hX dX12_lateness_53 rfl ?_
    refine x_iloadn hX dX12_lateness_54 rfl ?_
    refine x_iconst hX dX12_lateness_55 ?_
    obtain ⟨r_10, er_10, h⟩ := cl1_of h
    refine x_callVi (t := 11) (As := [vi x1, vi 0]) (rest := [vi r_8]) hX dX12_lateness_56 (c_X12_ofOrder (gk hX) (gl hX) hs x1 0 M_5 _ er_10) kX12_ofOrder vX12_ofOrder w_1797 (st139 hs) rfl rfl rfl rfl (Nat.le_of_ble_eq_true rfl) z0 ?_
    refine x_isub hX dX12_lateness_59 ?_
    cases h
    exact x_iret hX dX12_lateness_60 rfl
set_option maxRecDepth 100000 in
set_option maxHeartbeats 4000000 in
theorem c_X12_lateness {l : Launch} {G : Gx} (hG : GOK G) (hl : l.stackTraces = false) (hs : SOK G)  (x1 : Int) (M : Mem) (r : Int) (Mr : Mem) (h : f_X12_lateness x1 M = some (r, Mr)) : Cn l G mX12_lateness 9 [vr G 139, vi x1] M (some (vi r)) Mr := by
  refine Cn_of2 (ls := [some (vr G 139), some (vi x1)]) hG hl kX12_lateness rfl (Nat.le_of_ble_eq_true rfl) rfl rfl rfl rfl rfl (fun X eG el hX => ?_)
  subst eG; subst el
  unfold f_X12_lateness at h
  refine x_aloadn hX dX12_lateness_0 rfl ?_
  refine x_aloadn hX dX12_lateness_1 rfl ?_
  refine x_iloadn hX dX12_lateness_2 rfl ?_
  obtain ⟨r_1, er_1, h⟩ := cl1_of h
  refine x_callVi (t := 11) (As := [vi x1]) (rest := [vr (xG X) 139]) hX dX12_lateness_3 (c_X12_isOrder (gk hX) (gl hX) hs x1 M _ er_1) kX12_isOrder vX12_isOrder w_1793 (st139 hs) rfl rfl rfl rfl (Nat.le_of_ble_eq_true rfl) z0 ?_
  refine x_if_ne (tgt := 13) hX dX12_lateness_6 (by decide) rfl (fun hc => ?_) (fun hc => ?_)
  · replace h := (if_pos hc).symm.trans h
    refine x_iconst hX dX12_lateness_9 ?_
    refine x_goto (tgt := 28) hX dX12_lateness_10 (by decide) ?_
    exact x_weak [true, true] rfl (tj_X12_lateness_28 hX hs x1 1 M r Mr h)
  · replace h := (if_neg hc).symm.trans h
    refine x_aloadn hX dX12_lateness_13 rfl ?_
    refine x_iloadn hX dX12_lateness_14 rfl ?_
    refine x_iconst hX dX12_lateness_15 ?_
    obtain ⟨r_12, er_12, h⟩ := cl1_of h
    refine x_callVi (t := 11) (As := [vi x1, vi 1]) (rest := [vr (xG X) 139]) hX dX12_lateness_16 (c_X12_ofOrder (gk hX) (gl hX) hs x1 1 M _ er_12) kX12_ofOrder vX12_ofOrder w_1797 (st139 hs) rfl rfl rfl rfl (Nat.le_of_ble_eq_true rfl) z0 ?_
    refine x_iconst hX dX12_lateness_19 ?_
    refine x_icmp_eq (tgt := 27) hX dX12_lateness_20 (by decide) rfl cw_1 (fun hc => ?_) (fun hc => ?_)
    · replace h := (if_pos hc).symm.trans h
      refine x_iconst hX dX12_lateness_27 ?_
      exact x_weak [true, true] rfl (tj_X12_lateness_28 hX hs x1 0 M r Mr h)
    · replace h := (if_neg hc).symm.trans h
      refine x_iconst hX dX12_lateness_23 ?_
      refine x_goto (tgt := 28) hX dX12_lateness_24 (by decide) ?_
      exact x_weak [true, true] rfl (tj_X12_lateness_28 hX hs x1 2 M r Mr h)
