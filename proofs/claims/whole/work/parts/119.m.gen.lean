-- written by wip/gen/emit.py: X12_readZones, X12_readBuffer, X12_readTimes, X12_makeBatches, X12_allRoutes, X12_gainOf, X12_batchRoute, X12_bestPolicy, X12_laysStops, X12_readOrder, X12_seeksMove
set_option maxRecDepth 100000 in
set_option maxHeartbeats 4000000 in
theorem tj_X12_readZones_52 {X : Cxt} (hX : Gd X RX12 cX12_readZones 3 (none) 5) (hs : SOK (xG X))   (x1 : Int) (y0 : Int) (M : Mem) (Mr : Mem) (h : j_X12_readZones_52 x1 y0 M = some Mr) : V X 0 0 (Qn X none Mr) 52 [some (vr (xG X) 139), some (vi x1), none] [vi y0] M := by
  unfold j_X12_readZones_52 at h
  refine x_istoren (ls' := [some (vr (xG X) 139), some (vi x1), some (vi y0)]) hX dX12_readZones_52 rfl rfl rfl ?_
  refine x_aloadn hX dX12_readZones_53 rfl ?_
  obtain ⟨r_7, er_7, h⟩ := cl1_of h
  refine x_callVi (t := 11) (As := []) (rest := []) hX dX12_readZones_54 (c_X12_isWell (gk hX) (gl hX) hs M _ er_7) kX12_isWell vX12_isWell w_2305 (st139 hs) rfl rfl rfl rfl (Nat.le_of_ble_eq_true rfl) z0 ?_
  refine x_if_eq (tgt := 76) hX dX12_readZones_57 (by decide) rfl (fun hc => ?_) (fun hc => ?_)
  · replace h := (if_pos hc).symm.trans h
    cases h
    exact x_vret hX dX12_readZones_76 rfl
  · replace h := (if_neg hc).symm.trans h
    refine x_aloadn hX dX12_readZones_60 rfl ?_
    refine x_getRj (j := 140) hX dX12_readZones_61 fl_X12_7 rfl (st139 hs) rfl ?_
    refine x_bipush hX dX12_readZones_64 bp_7 ?_
    refine x_iloadn hX dX12_readZones_66 rfl ?_
    obtain ⟨M_9, eM_9, h⟩ := bnd_of h
    refine x_iast hX dX12_readZones_67 (st140 hs) inc_7_469 ixc_7 (x_meq eM_9 ?_)
    refine x_aloadn hX dX12_readZones_68 rfl ?_
    refine x_getRj (j := 140) hX dX12_readZones_69 fl_X12_7 rfl (st139 hs) rfl ?_
    refine x_bipush hX dX12_readZones_72 bp_8 ?_
    refine x_iloadn hX dX12_readZones_74 rfl ?_
    obtain ⟨M_10, eM_10, h⟩ := bnd_of h
    refine x_iast hX dX12_readZones_75 (st140 hs) inc_8_469 ixc_8 (x_meq eM_10 ?_)
    cases h
    exact x_vret hX dX12_readZones_76 rfl
set_option maxRecDepth 100000 in
set_option maxHeartbeats 4000000 in
theorem tj_X12_readZones_51 {X : Cxt} (hX : Gd X RX12 cX12_readZones 3 (none) 5) (hs : SOK (xG X))   (x1 : Int) (M : Mem) (Mr : Mem) (h : j_X12_readZones_51 x1 M = some Mr) : V X 0 0 (Qn X none Mr) 51 [some (vr (xG X) 139), some (vi x1), none] [] M := by
  unfold j_X12_readZones_51 at h
  refine x_iconst hX dX12_readZones_51 ?_
  exact x_weak [true, true, false] rfl (tj_X12_readZones_52 hX hs x1 (-1) M Mr h)
set_option maxRecDepth 100000 in
set_option maxHeartbeats 4000000 in
theorem c_X12_readZones {l : Launch} {G : Gx} (hG : GOK G) (hl : l.stackTraces = false) (hs : SOK G)  (M : Mem) (Mr : Mem) (h : f_X12_readZones M = some Mr) : Cn l G mX12_readZones 5 [vr G 139] M none Mr := by
  refine Cn_of2 (ls := [some (vr G 139), none, none]) hG hl kX12_readZones rfl (Nat.le_of_ble_eq_true rfl) rfl rfl rfl rfl rfl (fun X eG el hX => ?_)
  subst eG; subst el
  unfold f_X12_readZones at h
  refine x_aloadn hX dX12_readZones_0 rfl ?_
  obtain ⟨M_2, er_1, h⟩ := cl1_of h
  refine x_callVv (t := 11) (As := []) (rest := []) hX dX12_readZones_1 (c_X12_next (gk hX) (gl hX) hs M _ er_1) kX12_next vX12_next w_2272 (st139 hs) rfl rfl rfl rfl (Nat.le_of_ble_eq_true rfl) z0 ?_
  refine x_aloadn hX dX12_readZones_4 rfl ?_
  refine x_iconst hX dX12_readZones_5 ?_
  refine x_aloadn hX dX12_readZones_6 rfl ?_
  refine x_getRj (j := 140) hX dX12_readZones_7 fl_X12_7 rfl (st139 hs) rfl ?_
  refine x_iconst hX dX12_readZones_10 ?_
  refine x_iald hX dX12_readZones_11 (st140 hs) inc_0_469 ixc_0 ?_
  refine x_iconst hX dX12_readZones_12 ?_
  refine x_isub hX dX12_readZones_13 ?_
  obtain ⟨r_3, M_4, er_3, h⟩ := cl2_of h
  refine x_callVi (t := 11) (As := [vi 1, vi ((M_2 140 0) - 1)]) (rest := []) hX dX12_readZones_14 (c_X12_read (gk hX) (gl hX) hs 1 ((M_2 140 0) - 1) M_2 _ _ er_3) kX12_read vX12_read w_2301 (st139 hs) rfl rfl rfl rfl (Nat.le_of_ble_eq_true rfl) z0 ?_
  refine x_istoren (ls' := [some (vr (xG X) 139), some (vi r_3), none]) hX dX12_readZones_17 rfl rfl rfl ?_
  refine x_aloadn hX dX12_readZones_18 rfl ?_
  obtain ⟨r_5, er_5, h⟩ := cl1_of h
  refine x_callVi (t := 11) (As := []) (rest := []) hX dX12_readZones_19 (c_X12_isWell (gk hX) (gl hX) hs M_4 _ er_5) kX12_isWell vX12_isWell w_2305 (st139 hs) rfl rfl rfl rfl (Nat.le_of_ble_eq_true rfl) z0 ?_
  refine x_if_eq (tgt := 51) hX dX12_readZones_22 (by decide) rfl (fun hc => ?_) (fun hc => ?_)
  · replace h := (if_pos hc).symm.trans h
    exact x_weak [true, true, false] rfl (tj_X12_readZones_51 hX hs r_3 M_4 Mr h)
  · replace h := (if_neg hc).symm.trans h
    refine x_aloadn hX dX12_readZones_25 rfl ?_
    refine x_getI hX dX12_readZones_26 fl_X12_371 rfl (st139 hs) ?_
    refine x_iconst hX dX12_readZones_29 ?_
    refine x_icmp_ne (tgt := 51) hX dX12_readZones_30 (by decide) rfl cw_2 (fun hc => ?_) (fun hc => ?_)
    · replace h := (if_pos hc).symm.trans h
      refine x_aloadn hX dX12_readZones_33 rfl ?_
      refine x_iloadn hX dX12_readZones_34 rfl ?_
      refine x_iconst hX dX12_readZones_35 ?_
      refine x_iadd hX dX12_readZones_36 ?_
      refine x_aloadn hX dX12_readZones_37 rfl ?_
      refine x_getRj (j := 140) hX dX12_readZones_38 fl_X12_7 rfl (st139 hs) rfl ?_
      refine x_iconst hX dX12_readZones_41 ?_
      refine x_iald hX dX12_readZones_42 (st140 hs) inc_0_469 ixc_0 ?_
      refine x_iconst hX dX12_readZones_43 ?_
      refine x_isub hX dX12_readZones_44 ?_
      obtain ⟨r_11, M_12, er_11, h⟩ := cl2_of h
      refine x_callVi (t := 11) (As := [vi (r_3 + 1), vi ((M_4 140 0) - 1)]) (rest := []) hX dX12_readZones_45 (c_X12_read (gk hX) (gl hX) hs (r_3 + 1) ((M_4 140 0) - 1) M_4 _ _ er_11) kX12_read vX12_read w_2301 (st139 hs) rfl rfl rfl rfl (Nat.le_of_ble_eq_true rfl) z0 ?_
      refine x_goto (tgt := 52) hX dX12_readZones_48 (by decide) ?_
      exact x_weak [true, true, false] rfl (tj_X12_readZones_52 hX hs r_3 r_11 M_12 Mr h)
    · replace h := (if_neg hc).symm.trans h
      exact x_weak [true, true, false] rfl (tj_X12_readZones_51 hX hs r_3 M_4 Mr h)
set_option maxRecDepth 100000 in
set_option maxHeartbeats 4000000 in
theorem c_X12_readBuffer {l : Launch} {G : Gx} (hG : GOK G) (hl : l.stackTraces = false) (hs : SOK G)  (M : Mem) (Mr : Mem) (h : f_X12_readBuffer M = some Mr) : Cn l G mX12_readBuffer 5 [vr G 139] M none Mr := by
  refine Cn_of2 (ls := [some (vr G 139), none, none]) hG hl kX12_readBuffer rfl (Nat.le_of_ble_eq_true rfl) rfl rfl rfl rfl rfl (fun X eG el hX => ?_)
  subst eG; subst el
  unfold f_X12_readBuffer at h
  refine x_aloadn hX dX12_readBuffer_0 rfl ?_
  obtain ⟨M_2, er_1, h⟩ := cl1_of h
  refine x_callVv (t := 11) (As := []) (rest := []) hX dX12_readBuffer_1 (c_X12_next (gk hX) (gl hX) hs M _ er_1) kX12_next vX12_next w_2272 (st139 hs) rfl rfl rfl rfl (Nat.le_of_ble_eq_true rfl) z0 ?_
  refine x_aloadn hX dX12_readBuffer_4 rfl ?_
  refine x_iconst hX dX12_readBuffer_5 ?_
  refine x_iconst hX dX12_readBuffer_6 ?_
  obtain ⟨r_3, M_4, er_3, h⟩ := cl2_of h
  refine x_callVi (t := 11) (As := [vi 0, vi 1]) (rest := []) hX dX12_readBuffer_7 (c_X12_read (gk hX) (gl hX) hs 0 1 M_2 _ _ er_3) kX12_read vX12_read w_2301 (st139 hs) rfl rfl rfl rfl (Nat.le_of_ble_eq_true rfl) z0 ?_
  refine x_istoren (ls' := [some (vr (xG X) 139), some (vi r_3), none]) hX dX12_readBuffer_10 rfl rfl rfl ?_
  refine x_aloadn hX dX12_readBuffer_11 rfl ?_
  refine x_iconst hX dX12_readBuffer_12 ?_
  refine x_iconst hX dX12_readBuffer_13 ?_
  obtain ⟨r_5, M_6, er_5, h⟩ := cl2_of h
  refine x_callVi (t := 11) (As := [vi 0, vi 4]) (rest := []) hX dX12_readBuffer_14 (c_X12_read (gk hX) (gl hX) hs 0 4 M_4 _ _ er_5) kX12_read vX12_read w_2301 (st139 hs) rfl rfl rfl rfl (Nat.le_of_ble_eq_true rfl) z0 ?_
  refine x_istoren (ls' := [some (vr (xG X) 139), some (vi r_3), some (vi r_5)]) hX dX12_readBuffer_17 rfl rfl rfl ?_
  refine x_aloadn hX dX12_readBuffer_18 rfl ?_
  obtain ⟨r_7, er_7, h⟩ := cl1_of h
  refine x_callVi (t := 11) (As := []) (rest := []) hX dX12_readBuffer_19 (c_X12_isWell (gk hX) (gl hX) hs M_6 _ er_7) kX12_isWell vX12_isWell w_2305 (st139 hs) rfl rfl rfl rfl (Nat.le_of_ble_eq_true rfl) z0 ?_
  refine x_if_eq (tgt := 35) hX dX12_readBuffer_22 (by decide) rfl (fun hc => ?_) (fun hc => ?_)
  · replace h := (if_pos hc).symm.trans h
    cases h
    exact x_vret hX dX12_readBuffer_35 rfl
  · replace h := (if_neg hc).symm.trans h
    refine x_aloadn hX dX12_readBuffer_25 rfl ?_
    refine x_getRj (j := 140) hX dX12_readBuffer_26 fl_X12_7 rfl (st139 hs) rfl ?_
    refine x_bipush hX dX12_readBuffer_29 bp_9 ?_
    refine x_iloadn hX dX12_readBuffer_31 rfl ?_
    refine x_iadd hX dX12_readBuffer_32 ?_
    refine x_iloadn hX dX12_readBuffer_33 rfl ?_
    obtain ⟨b_10, h⟩ := gi_of h
    obtain ⟨M_9, eM_9, h⟩ := bnd_of h
    refine x_iast hX dX12_readBuffer_34 (st140 hs) b_10 rfl (x_meq eM_9 ?_)
    cases h
    exact x_vret hX dX12_readBuffer_35 rfl
set_option maxRecDepth 100000 in
set_option maxHeartbeats 4000000 in
theorem c_X12_readTimes {l : Launch} {G : Gx} (hG : GOK G) (hl : l.stackTraces = false) (hs : SOK G)  (M : Mem) (Mr : Mem) (h : f_X12_readTimes M = some Mr) : Cn l G mX12_readTimes 5 [vr G 139] M none Mr := by
  refine Cn_of2 (ls := [some (vr G 139)]) hG hl kX12_readTimes rfl (Nat.le_of_ble_eq_true rfl) rfl rfl rfl rfl rfl (fun X eG el hX => ?_)
  subst eG; subst el
  unfold f_X12_readTimes at h
  refine x_aloadn hX dX12_readTimes_0 rfl ?_
  obtain ⟨M_2, er_1, h⟩ := cl1_of h
  refine x_callVv (t := 11) (As := []) (rest := []) hX dX12_readTimes_1 (c_X12_next (gk hX) (gl hX) hs M _ er_1) kX12_next vX12_next w_2272 (st139 hs) rfl rfl rfl rfl (Nat.le_of_ble_eq_true rfl) z0 ?_
  refine x_aloadn hX dX12_readTimes_4 rfl ?_
  refine x_getRj (j := 140) hX dX12_readTimes_5 fl_X12_7 rfl (st139 hs) rfl ?_
  refine x_bipush hX dX12_readTimes_8 bp_11 ?_
  refine x_aloadn hX dX12_readTimes_10 rfl ?_
  refine x_iconst hX dX12_readTimes_11 ?_
  refine x_bipush hX dX12_readTimes_12 bp_99 ?_
  obtain ⟨r_3, M_4, er_3, h⟩ := cl2_of h
  refine x_callVi (t := 11) (As := [vi 0, vi 99]) (rest := [vi 11, vr (xG X) 140]) hX dX12_readTimes_14 (c_X12_read (gk hX) (gl hX) hs 0 99 M_2 _ _ er_3) kX12_read vX12_read w_2301 (st139 hs) rfl rfl rfl rfl (Nat.le_of_ble_eq_true rfl) z0 ?_
  obtain ⟨M_5, eM_5, h⟩ := bnd_of h
  refine x_iast hX dX12_readTimes_17 (st140 hs) inc_11_469 ixc_11 (x_meq eM_5 ?_)
  refine x_aloadn hX dX12_readTimes_18 rfl ?_
  refine x_getRj (j := 140) hX dX12_readTimes_19 fl_X12_7 rfl (st139 hs) rfl ?_
  refine x_bipush hX dX12_readTimes_22 bp_12 ?_
  refine x_aloadn hX dX12_readTimes_24 rfl ?_
  refine x_iconst hX dX12_readTimes_25 ?_
  refine x_bipush hX dX12_readTimes_26 bp_99 ?_
  obtain ⟨r_6, M_7, er_6, h⟩ := cl2_of h
  refine x_callVi (t := 11) (As := [vi 0, vi 99]) (rest := [vi 12, vr (xG X) 140]) hX dX12_readTimes_28 (c_X12_read (gk hX) (gl hX) hs 0 99 M_5 _ _ er_6) kX12_read vX12_read w_2301 (st139 hs) rfl rfl rfl rfl (Nat.le_of_ble_eq_true rfl) z0 ?_
  obtain ⟨M_8, eM_8, h⟩ := bnd_of h
  refine x_iast hX dX12_readTimes_31 (st140 hs) inc_12_469 ixc_12 (x_meq eM_8 ?_)
  cases h
  exact x_vret hX dX12_readTimes_32 rfl
set_option maxRecDepth 100000 in
set_option maxHeartbeats 4000000 in
theorem tj_X12_makeBatches_133_85 {X : Cxt} (hX : Gd X RX12 cX12_makeBatches 9 (some .int) 6) (hs : SOK (xG X))   (x1 : Int) (x2 : Int) (x3 : Int) (x4 : Int) (x5 : Int) (x7 : Int) (y0 : Int) (M : Mem) {Q : State → Prop} (o : (Int × Int × Int) ⊕ ((Int × Int) ⊕ (Int × Mem))) (h : j_X12_makeBatches_133_85 x1 x2 x3 x4 x5 x7 y0 M = some o) (hP : ∀ y, o = .inl y → V X 0 0 Q 85 [some (vr (xG X) 139), some (vi x1), some (vi x2), some (vi x3), some (vi y.1), some (vi x5), some (vi y.2.1), some (vi y.2.2), none] [] M) (hE : ∀ z, o = .inr (.inl z) → V X 0 0 Q 138 [some (vr (xG X) 139), some (vi x1), some (vi x2), some (vi x3), some (vi z.1), some (vi x5), none, some (vi z.2), none] [] M) (hR : ∀ q, o = .inr (.inr q) → Q = Qn X (some (vi q.1)) q.2) : V X 0 0 Q 133 [some (vr (xG X) 139), some (vi x1), some (vi x2), some (vi x3), some (vi x4), some (vi x5), none, some (vi x7), none] [vi y0] M := by
  unfold j_X12_makeBatches_133_85 at h
  refine x_istore (ls' := [some (vr (xG X) 139), some (vi x1), some (vi x2), some (vi x3), some (vi x4), some (vi x5), some (vi y0), some (vi x7), none]) hX dX12_makeBatches_133 rfl rfl rfl ?_
  refine x_goto (tgt := 85) hX dX12_makeBatches_135 (by decide) ?_
  exact x_weak [true, true, true, true, true, true, true, true, false] rfl (hP (x4, y0, x7) (Option.some.inj h).symm)
set_option maxRecDepth 100000 in
set_option maxHeartbeats 4000000 in
theorem ts_X12_makeBatches_85 {X : Cxt} (hX : Gd X RX12 cX12_makeBatches 9 (some .int) 6) (hs : SOK (xG X))  (x1 : Int) (x2 : Int) (x3 : Int) (x5 : Int) (M : Mem) (x4 : Int) (x6 : Int) (x7 : Int) {Q : State → Prop} (o : (Int × Int × Int) ⊕ ((Int × Int) ⊕ (Int × Mem))) (h : s_X12_makeBatches_85 x1 x2 x3 x5 M x4 x6 x7 = some o) (hP : ∀ y, o = .inl y → V X 0 0 Q 85 [some (vr (xG X) 139), some (vi x1), some (vi x2), some (vi x3), some (vi y.1), some (vi x5), some (vi y.2.1), some (vi y.2.2), none] [] M) (hE : ∀ z, o = .inr (.inl z) → V X 0 0 Q 138 [some (vr (xG X) 139), some (vi x1), some (vi x2), some (vi x3), some (vi z.1), some (vi x5), none, some (vi z.2), none] [] M) (hR : ∀ q, o = .inr (.inr q) → Q = Qn X (some (vi q.1)) q.2) : V X 0 0 Q 85 [some (vr (xG X) 139), some (vi x1), some (vi x2), some (vi x3), some (vi x4), some (vi x5), some (vi x6), some (vi x7), none] [] M := by
  unfold s_X12_makeBatches_85 at h
  refine x_iload hX dX12_makeBatches_85 rfl ?_
  refine x_iconst hX dX12_makeBatches_87 ?_
  refine x_icmp_eq (tgt := 138) hX dX12_makeBatches_88 (by decide) rfl cw_m1 (fun hc => ?_) (fun hc => ?_)
  · replace h := (if_pos hc).symm.trans h
    exact x_weak [true, true, true, true, true, true, false, true, false] rfl (hE (x4, x7) (Option.some.inj h).symm)
  · replace h := (if_neg hc).symm.trans h
    refine x_iload hX dX12_makeBatches_91 rfl ?_
    refine x_iconst hX dX12_makeBatches_93 ?_
    refine x_iload hX dX12_makeBatches_94 rfl ?_
    refine x_ishl hX dX12_makeBatches_96 ?_
    refine x_ior hX dX12_makeBatches_97 ?_
    obtain ⟨x7_8, ex7_8, h⟩ := bnd_of h
    refine x_istore (ls' := [some (vr (xG X) 139), some (vi x1), some (vi x2), some (vi x3), some (vi x4), some (vi x5), some (vi x6), some (vi x7_8), none]) hX dX12_makeBatches_98 rfl ex7_8 rfl ?_
    refine x_iload hX dX12_makeBatches_100 rfl ?_
    refine x_iconst hX dX12_makeBatches_102 ?_
    refine x_iload hX dX12_makeBatches_103 rfl ?_
    refine x_ishl hX dX12_makeBatches_105 ?_
    refine x_iconst hX dX12_makeBatches_106 ?_
    refine x_ixor hX dX12_makeBatches_107 ?_
    refine x_iand hX dX12_makeBatches_108 ?_
    obtain ⟨x4_9, ex4_9, h⟩ := bnd_of h
    refine x_istore (ls' := [some (vr (xG X) 139), some (vi x1), some (vi x2), some (vi x3), some (vi x4_9), some (vi x5), some (vi x6), some (vi x7_8), none]) hX dX12_makeBatches_109 rfl ex4_9 rfl ?_
    refine x_iload hX dX12_makeBatches_111 rfl ?_
    obtain ⟨r_10, er_10, h⟩ := cl1_of h
    refine x_callSi (As := [vi x7_8]) (rest := []) hX dX12_makeBatches_113 (c_X12_ones (gk hX) (gl hX) x7_8 M _ er_10) kX12_ones sX12_ones w_1896 rfl rfl rfl (Nat.le_of_ble_eq_true rfl) z0 ?_
    refine x_iloadn hX dX12_makeBatches_116 rfl ?_
    refine x_icmp_ge (tgt := 132) hX dX12_makeBatches_117 (by decide) rfl rfl (fun hc => ?_) (fun hc => ?_)
    · replace h := (if_pos hc).symm.trans h
      refine x_aloadn hX dX12_makeBatches_120 rfl ?_
      refine x_iload hX dX12_makeBatches_121 rfl ?_
      refine x_iload hX dX12_makeBatches_123 rfl ?_
      refine x_iloadn hX dX12_makeBatches_125 rfl ?_
      obtain ⟨r_12, er_12, h⟩ := cl1_of h
      refine x_callVi (t := 11) (As := [vi x4_9, vi x7_8, vi x2]) (rest := []) hX dX12_makeBatches_126 (c_X12_nextOf (gk hX) (gl hX) hs x4_9 x7_8 x2 M _ er_12) kX12_nextOf vX12_nextOf w_1899 (st139 hs) rfl rfl rfl rfl (Nat.le_of_ble_eq_true rfl) z0 ?_
      refine x_goto (tgt := 133) hX dX12_makeBatches_129 (by decide) ?_
      exact x_weak [true, true, true, true, true, true, false, true, false] rfl (tj_X12_makeBatches_133_85 hX hs x1 x2 x3 x4_9 x5 x7_8 r_12 M o h hP hE hR)
    · replace h := (if_neg hc).symm.trans h
      refine x_iconst hX dX12_makeBatches_132 ?_
      exact x_weak [true, true, true, true, true, true, false, true, false] rfl (tj_X12_makeBatches_133_85 hX hs x1 x2 x3 x4_9 x5 x7_8 (-1) M o h hP hE hR)
set_option maxRecDepth 100000 in
set_option maxHeartbeats 4000000 in
theorem ts_X12_makeBatches_57 {X : Cxt} (hX : Gd X RX12 cX12_makeBatches 9 (some .int) 6) (hs : SOK (xG X))  (x1 : Int) (x2 : Int) (x3 : Int) (x4 : Int) (x5 : Int) (M : Mem) {Q : State → Prop} (o : (Int × Int × Mem) ⊕ ((Int × Mem) ⊕ (Int × Mem))) (h : s_X12_makeBatches_57 x1 x2 x3 x4 x5 M = some o) (hP : ∀ y, o = .inl y → V X 0 0 Q 57 [some (vr (xG X) 139), some (vi x1), some (vi x2), some (vi x3), some (vi y.1), some (vi y.2.1), none, none, none] [] y.2.2) (hE : ∀ z, o = .inr (.inl z) → V X 0 0 Q 152 [none, none, none, none, none, some (vi z.1), none, none, none] [] z.2) (hR : ∀ q, o = .inr (.inr q) → Q = Qn X (some (vi q.1)) q.2) : V X 0 0 Q 57 [some (vr (xG X) 139), some (vi x1), some (vi x2), some (vi x3), some (vi x4), some (vi x5), none, none, none] [] M := by
  unfold s_X12_makeBatches_57 at h
  refine x_iload hX dX12_makeBatches_57 rfl ?_
  refine x_if_eq (tgt := 152) hX dX12_makeBatches_59 (by decide) rfl (fun hc => ?_) (fun hc => ?_)
  · replace h := (if_pos hc).symm.trans h
    exact x_weak [false, false, false, false, false, true, false, false, false] rfl (hE (x5, M) (Option.some.inj h).symm)
  · replace h := (if_neg hc).symm.trans h
    refine x_aloadn hX dX12_makeBatches_62 rfl ?_
    refine x_getRj (j := 140) hX dX12_makeBatches_63 fl_X12_7 rfl (st139 hs) rfl ?_
    refine x_iconst hX dX12_makeBatches_66 ?_
    refine x_iald hX dX12_makeBatches_67 (st140 hs) inc_5_469 ixc_5 ?_
    refine x_bipush hX dX12_makeBatches_68 bp_8 ?_
    refine x_icmp_ge (tgt := 152) hX dX12_makeBatches_70 (by decide) rfl cw_8 (fun hc => ?_) (fun hc => ?_)
    · replace h := (if_pos hc).symm.trans h
      refine x_aloadn hX dX12_makeBatches_73 rfl ?_
      refine x_iload hX dX12_makeBatches_74 rfl ?_
      refine x_iloadn hX dX12_makeBatches_76 rfl ?_
      obtain ⟨r_6, er_6, h⟩ := cl1_of h
      refine x_callVi (t := 11) (As := [vi x4, vi x3]) (rest := []) hX dX12_makeBatches_77 (c_X12_seedOf (gk hX) (gl hX) hs x4 x3 M _ er_6) kX12_seedOf vX12_seedOf w_1888 (st139 hs) rfl rfl rfl rfl (Nat.le_of_ble_eq_true rfl) z0 ?_
      refine x_istore (ls' := [some (vr (xG X) 139), some (vi x1), some (vi x2), some (vi x3), some (vi x4), some (vi x5), some (vi r_6), none, none]) hX dX12_makeBatches_80 rfl rfl rfl ?_
      refine x_iconst hX dX12_makeBatches_82 ?_
      refine x_istore (ls' := [some (vr (xG X) 139), some (vi x1), some (vi x2), some (vi x3), some (vi x4), some (vi x5), some (vi r_6), some (vi 0), none]) hX dX12_makeBatches_83 rfl rfl rfl ?_
      refine x_weak (ls' := [some (vr (xG X) 139), some (vi x1), some (vi x2), some (vi x3), some (vi x4), some (vi x5), some (vi r_6), some (vi 0), none]) [true, true, true, true, true, true, true, true, false] rfl ?_
      refine lp_use (x := (x4, r_6, 0)) (P := fun x => V X 0 0 Q 85 [some (vr (xG X) 139), some (vi x1), some (vi x2), some (vi x3), some (vi x.1), some (vi x5), some (vi x.2.1), some (vi x.2.2), none] [] M) (PE := fun z_14 => V X 0 0 Q 138 [some (vr (xG X) 139), some (vi x1), some (vi x2), some (vi x3), some (vi z_14.1), some (vi x5), none, some (vi z_14.2), none] [] M) (PR := fun q => Q = Qn X (some (vi q.1)) q.2) h (fun x o hh hP hE hR => ts_X12_makeBatches_85 hX hs x1 x2 x3 x5 M x.1 x.2.1 x.2.2 o hh hP hE hR) (fun z_14 h => ?_) (fun q h => ?_)
      · show V X 0 0 Q 138 [some (vr (xG X) 139), some (vi x1), some (vi x2), some (vi x3), some (vi z_14.1), some (vi x5), none, some (vi z_14.2), none] [] M
        refine x_aloadn hX dX12_makeBatches_138 rfl ?_
        refine x_iload hX dX12_makeBatches_139 rfl ?_
        obtain ⟨r_15, M_16, er_15, h⟩ := cl2_of h
        refine x_callVi (t := 11) (As := [vi z_14.2]) (rest := []) hX dX12_makeBatches_141 (c_X12_addsBatch (gk hX) (gl hX) hs z_14.2 M _ _ er_15) kX12_addsBatch vX12_addsBatch w_1911 (st139 hs) rfl rfl rfl rfl (Nat.le_of_ble_eq_true rfl) z0 ?_
        refine x_istore (ls' := [some (vr (xG X) 139), some (vi x1), some (vi x2), some (vi x3), some (vi z_14.1), some (vi x5), none, some (vi z_14.2), some (vi r_15)]) hX dX12_makeBatches_144 rfl rfl rfl ?_
        obtain ⟨x5_17, ex5_17, h⟩ := bnd_of h
        refine x_iinc (ls' := [some (vr (xG X) 139), some (vi x1), some (vi x2), some (vi x3), some (vi z_14.1), some (vi x5_17), none, some (vi z_14.2), some (vi r_15)]) hX dX12_makeBatches_146 rfl rfl ex5_17 rfl ?_
        refine x_goto (tgt := 57) hX dX12_makeBatches_149 (by decide) ?_
        exact x_weak [true, true, true, true, true, true, false, false, false] rfl (hP (z_14.1, x5_17, M_16) (Option.some.inj h).symm)
      · exact hR q (Option.some.inj h).symm
    · replace h := (if_neg hc).symm.trans h
      exact x_weak [false, false, false, false, false, true, false, false, false] rfl (hE (x5, M) (Option.some.inj h).symm)
set_option maxRecDepth 100000 in
set_option maxHeartbeats 4000000 in
theorem tj_X12_makeBatches_35 {X : Cxt} (hX : Gd X RX12 cX12_makeBatches 9 (some .int) 6) (hs : SOK (xG X))   (x1 : Int) (x2 : Int) (x3 : Int) (y1 : Int) (M : Mem) (r : Int) (Mr : Mem) (h : j_X12_makeBatches_35 x1 x2 x3 y1 M = some (r, Mr)) : V X 0 0 (Qn X (some (vi r)) Mr) 35 [some (vr (xG X) 139), some (vi x1), some (vi x2), some (vi x3), none, none, none, none, none] [vi y1, vr (xG X) 139] M := by
  unfold j_X12_makeBatches_35 at h
  obtain ⟨M_3, eM_3, h⟩ := bnd_of h
  refine x_putI hX dX12_makeBatches_35 fp_X12_70 rfl (st139 hs) (x_meq eM_3 ?_)
  refine x_aloadn hX dX12_makeBatches_38 rfl ?_
  refine x_getI hX dX12_makeBatches_39 fl_X12_70 rfl (st139 hs) ?_
  refine x_if_le (tgt := 47) hX dX12_makeBatches_42 (by decide) rfl (fun hc => ?_) (fun hc => ?_)
  · replace h := (if_pos hc).symm.trans h
    refine x_iconst hX dX12_makeBatches_45 ?_
    cases h
    exact x_iret hX dX12_makeBatches_46 rfl
  · replace h := (if_neg hc).symm.trans h
    refine x_aloadn hX dX12_makeBatches_47 rfl ?_
    refine x_iloadn hX dX12_makeBatches_48 rfl ?_
    obtain ⟨r_4, er_4, h⟩ := cl1_of h
    refine x_callVi (t := 11) (As := [vi x2]) (rest := []) hX dX12_makeBatches_49 (c_X12_candidates (gk hX) (gl hX) hs x2 M_3 _ er_4) kX12_candidates vX12_candidates w_1880 (st139 hs) rfl rfl rfl rfl (Nat.le_of_ble_eq_true rfl) z0 ?_
    refine x_istore (ls' := [some (vr (xG X) 139), some (vi x1), some (vi x2), some (vi x3), some (vi r_4), none, none, none, none]) hX dX12_makeBatches_52 rfl rfl rfl ?_
    refine x_iconst hX dX12_makeBatches_54 ?_
    refine x_istore (ls' := [some (vr (xG X) 139), some (vi x1), some (vi x2), some (vi x3), some (vi r_4), some (vi 0), none, none, none]) hX dX12_makeBatches_55 rfl rfl rfl ?_
    refine x_weak (ls' := [some (vr (xG X) 139), some (vi x1), some (vi x2), some (vi x3), some (vi r_4), some (vi 0), none, none, none]) [true, true, true, true, true, true, false, false, false] rfl ?_
    refine lp_use (x := (r_4, 0, M_3)) (P := fun x => V X 0 0 (Qn X (some (vi r)) Mr) 57 [some (vr (xG X) 139), some (vi x1), some (vi x2), some (vi x3), some (vi x.1), some (vi x.2.1), none, none, none] [] x.2.2) (PE := fun z_18 => V X 0 0 (Qn X (some (vi r)) Mr) 152 [none, none, none, none, none, some (vi z_18.1), none, none, none] [] z_18.2) (PR := fun q => (Qn X (some (vi r)) Mr) = Qn X (some (vi q.1)) q.2) h (fun x o hh hP hE hR => ts_X12_makeBatches_57 hX hs x1 x2 x3 x.1 x.2.1 x.2.2 o hh hP hE hR) (fun z_18 h => ?_) (fun q h => ?_)
    · show V X 0 0 (Qn X (some (vi r)) Mr) 152 [none, none, none, none, none, some (vi z_18.1), none, none, none] [] z_18.2
      refine x_iload hX dX12_makeBatches_152 rfl ?_
      cases h
      exact x_iret hX dX12_makeBatches_154 rfl
    · cases h; rfl
set_option maxRecDepth 100000 in
set_option maxHeartbeats 4000000 in
theorem tj_X12_makeBatches_34 {X : Cxt} (hX : Gd X RX12 cX12_makeBatches 9 (some .int) 6) (hs : SOK (xG X))   (x1 : Int) (x2 : Int) (x3 : Int) (M : Mem) (r : Int) (Mr : Mem) (h : j_X12_makeBatches_34 x1 x2 x3 M = some (r, Mr)) : V X 0 0 (Qn X (some (vi r)) Mr) 34 [some (vr (xG X) 139), some (vi x1), some (vi x2), some (vi x3), none, none, none, none, none] [vr (xG X) 139] M := by
  unfold j_X12_makeBatches_34 at h
  refine x_iconst hX dX12_makeBatches_34 ?_
  exact x_weak [true, true, true, true, false, false, false, false, false] rfl (tj_X12_makeBatches_35 hX hs x1 x2 x3 1 M r Mr h)
set_option maxRecDepth 100000 in
set_option maxHeartbeats 4000000 in
theorem c_X12_makeBatches {l : Launch} {G : Gx} (hG : GOK G) (hl : l.stackTraces = false) (hs : SOK G)  (x1 : Int) (x2 : Int) (x3 : Int) (M : Mem) (r : Int) (Mr : Mem) (h : f_X12_makeBatches x1 x2 x3 M = some (r, Mr)) : Cn l G mX12_makeBatches 6 [vr G 139, vi x1, vi x2, vi x3] M (some (vi r)) Mr := by
  refine Cn_of2 (ls := [some (vr G 139), some (vi x1), some (vi x2), some (vi x3), none, none, none, none, none]) hG hl kX12_makeBatches rfl (Nat.le_of_ble_eq_true rfl) rfl rfl rfl rfl rfl (fun X eG el hX => ?_)
  subst eG; subst el
  unfold f_X12_makeBatches at h
  refine x_aloadn hX dX12_makeBatches_0 rfl ?_
  refine x_iloadn hX dX12_makeBatches_1 rfl ?_
  refine x_iconst hX dX12_makeBatches_2 ?_
  refine x_bipush hX dX12_makeBatches_3 bp_6 ?_
  obtain ⟨r_1, er_1, h⟩ := cl1_of h
  refine x_callSi (As := [vi x1, vi 1, vi 6]) (rest := [vr (xG X) 139]) hX dX12_makeBatches_5 (c_X12_in (gk hX) (gl hX) x1 1 6 M _ er_1) kX12_in sX12_in w_1735 rfl rfl rfl (Nat.le_of_ble_eq_true rfl) z0 ?_
  refine x_if_eq (tgt := 34) hX dX12_makeBatches_8 (by decide) rfl (fun hc => ?_) (fun hc => ?_)
  · replace h := (if_pos hc).symm.trans h
    exact x_weak [true, true, true, true, false, false, false, false, false] rfl (tj_X12_makeBatches_34 hX hs x1 x2 x3 M r Mr h)
  · replace h := (if_neg hc).symm.trans h
    refine x_iloadn hX dX12_makeBatches_11 rfl ?_
    refine x_iconst hX dX12_makeBatches_12 ?_
    refine x_ldc hX dX12_makeBatches_13 w_1879 ?_
    obtain ⟨r_19, er_19, h⟩ := cl1_of h
    refine x_callSi (As := [vi x2, vi 1, vi 99999]) (rest := [vr (xG X) 139]) hX dX12_makeBatches_15 (c_X12_in (gk hX) (gl hX) x2 1 99999 M _ er_19) kX12_in sX12_in w_1735 rfl rfl rfl (Nat.le_of_ble_eq_true rfl) z0 ?_
    refine x_if_eq (tgt := 34) hX dX12_makeBatches_18 (by decide) rfl (fun hc => ?_) (fun hc => ?_)
    · replace h := (if_pos hc).symm.trans h
      exact x_weak [true, true, true, true, false, false, false, false, false] rfl (tj_X12_makeBatches_34 hX hs x1 x2 x3 M r Mr h)
    · replace h := (if_neg hc).symm.trans h
      refine x_iloadn hX dX12_makeBatches_21 rfl ?_
      refine x_iconst hX dX12_makeBatches_22 ?_
      refine x_iconst hX dX12_makeBatches_23 ?_
      obtain ⟨r_21, er_21, h⟩ := cl1_of h
      refine x_callSi (As := [vi x3, vi 0, vi 2]) (rest := [vr (xG X) 139]) hX dX12_makeBatches_24 (c_X12_in (gk hX) (gl hX) x3 0 2 M _ er_21) kX12_in sX12_in w_1735 rfl rfl rfl (Nat.le_of_ble_eq_true rfl) z0 ?_
      refine x_if_eq (tgt := 34) hX dX12_makeBatches_27 (by decide) rfl (fun hc => ?_) (fun hc => ?_)
      · replace h := (if_pos hc).symm.trans h
        exact x_weak [true, true, true, true, false, false, false, false, false] rfl (tj_X12_makeBatches_34 hX hs x1 x2 x3 M r Mr h)
      · replace h := (if_neg hc).symm.trans h
        refine x_iconst hX dX12_makeBatches_30 ?_
        refine x_goto (tgt := 35) hX dX12_makeBatches_31 (by decide) ?_
        exact x_weak [true, true, true, true, false, false, false, false, false] rfl (tj_X12_makeBatches_35 hX hs x1 x2 x3 0 M r Mr h)
set_option maxRecDepth 100000 in
set_option maxHeartbeats 4000000 in
theorem ts_X12_allRoutes_4 {X : Cxt} (hX : Gd X RX12 cX12_allRoutes 3 (some .int) 6) (hs : SOK (xG X))  (x1 : Int) (x2 : Int) (M : Mem) {Q : State → Prop} (o : (Int × Int × Mem) ⊕ ((Int × Mem) ⊕ (Int × Mem))) (h : s_X12_allRoutes_4 x1 x2 M = some o) (hP : ∀ y, o = .inl y → V X 0 0 Q 4 [some (vr (xG X) 139), some (vi y.1), some (vi y.2.1)] [] y.2.2) (hE : ∀ z, o = .inr (.inl z) → V X 0 0 Q 44 [none, some (vi z.1), none] [] z.2) (hR : ∀ q, o = .inr (.inr q) → Q = Qn X (some (vi q.1)) q.2) : V X 0 0 Q 4 [some (vr (xG X) 139), some (vi x1), some (vi x2)] [] M := by
  unfold s_X12_allRoutes_4 at h
  refine x_iloadn hX dX12_allRoutes_4 rfl ?_
  refine x_aloadn hX dX12_allRoutes_5 rfl ?_
  refine x_getRj (j := 140) hX dX12_allRoutes_6 fl_X12_7 rfl (st139 hs) rfl ?_
  refine x_iconst hX dX12_allRoutes_9 ?_
  refine x_iald hX dX12_allRoutes_10 (st140 hs) inc_5_469 ixc_5 ?_
  refine x_icmp_ge (tgt := 44) hX dX12_allRoutes_11 (by decide) rfl rfl (fun hc => ?_) (fun hc => ?_)
  · replace h := (if_pos hc).symm.trans h
    refine x_iloadn hX dX12_allRoutes_14 rfl ?_
    refine x_aloadn hX dX12_allRoutes_15 rfl ?_
    refine x_aloadn hX dX12_allRoutes_16 rfl ?_
    refine x_getRj (j := 140) hX dX12_allRoutes_17 fl_X12_7 rfl (st139 hs) rfl ?_
    refine x_sipush hX dX12_allRoutes_20 sp_461 ?_
    refine x_iloadn hX dX12_allRoutes_23 rfl ?_
    refine x_iadd hX dX12_allRoutes_24 ?_
    obtain ⟨b_1, h⟩ := gi_of h
    refine x_iald hX dX12_allRoutes_25 (st140 hs) b_1 rfl ?_
    refine x_aloadn hX dX12_allRoutes_26 rfl ?_
    refine x_getRj (j := 140) hX dX12_allRoutes_27 fl_X12_7 rfl (st139 hs) rfl ?_
    refine x_bipush hX dX12_allRoutes_30 bp_6 ?_
    refine x_iald hX dX12_allRoutes_32 (st140 hs) inc_6_469 ixc_6 ?_
    obtain ⟨r_2, M_3, er_2, h⟩ := cl2_of h
    refine x_callVi (t := 11) (As := [vi (M 140 (ix (461 + x2))), vi (M 140 6)]) (rest := [vi x1]) hX dX12_allRoutes_33 (c_X12_routes (gk hX) (gl hX) hs (M 140 (ix (461 + x2))) (M 140 6) M _ _ er_2) kX12_routes vX12_routes w_1963 (st139 hs) rfl rfl rfl rfl (Nat.le_of_ble_eq_true rfl) z0 ?_
    refine x_iadd hX dX12_allRoutes_36 ?_
    obtain ⟨x1_4, ex1_4, h⟩ := bnd_of h
    refine x_istoren (ls' := [some (vr (xG X) 139), some (vi x1_4), some (vi x2)]) hX dX12_allRoutes_37 rfl ex1_4 rfl ?_
    obtain ⟨x2_5, ex2_5, h⟩ := bnd_of h
    refine x_iinc (ls' := [some (vr (xG X) 139), some (vi x1_4), some (vi x2_5)]) hX dX12_allRoutes_38 rfl rfl ex2_5 rfl ?_
    refine x_goto (tgt := 4) hX dX12_allRoutes_41 (by decide) ?_
    exact x_weak [true, true, true] rfl (hP (x1_4, x2_5, M_3) (Option.some.inj h).symm)
  · replace h := (if_neg hc).symm.trans h
    exact x_weak [false, true, false] rfl (hE (x1, M) (Option.some.inj h).symm)
set_option maxRecDepth 100000 in
set_option maxHeartbeats 4000000 in
theorem c_X12_allRoutes {l : Launch} {G : Gx} (hG : GOK G) (hl : l.stackTraces = false) (hs : SOK G)  (M : Mem) (r : Int) (Mr : Mem) (h : f_X12_allRoutes M = some (r, Mr)) : Cn l G mX12_allRoutes 6 [vr G 139] M (some (vi r)) Mr := by
  refine Cn_of2 (ls := [some (vr G 139), none, none]) hG hl kX12_allRoutes rfl (Nat.le_of_ble_eq_true rfl) rfl rfl rfl rfl rfl (fun X eG el hX => ?_)
  subst eG; subst el
  unfold f_X12_allRoutes at h
  refine x_iconst hX dX12_allRoutes_0 ?_
  refine x_istoren (ls' := [some (vr (xG X) 139), some (vi 0), none]) hX dX12_allRoutes_1 rfl rfl rfl ?_
  refine x_iconst hX dX12_allRoutes_2 ?_
  refine x_istoren (ls' := [some (vr (xG X) 139), some (vi 0), some (vi 0)]) hX dX12_allRoutes_3 rfl rfl rfl ?_
  refine x_weak (ls' := [some (vr (xG X) 139), some (vi 0), some (vi 0)]) [true, true, true] rfl ?_
  refine lp_use (x := (0, 0, M)) (P := fun x => V X 0 0 (Qn X (some (vi r)) Mr) 4 [some (vr (xG X) 139), some (vi x.1), some (vi x.2.1)] [] x.2.2) (PE := fun z_6 => V X 0 0 (Qn X (some (vi r)) Mr) 44 [none, some (vi z_6.1), none] [] z_6.2) (PR := fun q => (Qn X (some (vi r)) Mr) = Qn X (some (vi q.1)) q.2) h (fun x o hh hP hE hR => ts_X12_allRoutes_4 hX hs x.1 x.2.1 x.2.2 o hh hP hE hR) (fun z_6 h => ?_) (fun q h => ?_)
  · show V X 0 0 (Qn X (some (vi r)) Mr) 44 [none, some (vi z_6.1), none] [] z_6.2
    refine x_iloadn hX dX12_allRoutes_44 rfl ?_
    cases h
    exact x_iret hX dX12_allRoutes_45 rfl
  · cases h; rfl
set_option maxRecDepth 100000 in
set_option maxHeartbeats 4000000 in
theorem c_X12_gainOf {l : Launch} {G : Gx} (hG : GOK G) (hl : l.stackTraces = false) (hs : SOK G)  (x1 : Int) (x2 : Int) (x3 : Int) (M : Mem) (r : Int) (Mr : Mem) (h : f_X12_gainOf x1 x2 x3 M = some (r, Mr)) : Cn l G mX12_gainOf 6 [vr G 139, vi x1, vi x2, vi x3] M (some (vi r)) Mr := by
  refine Cn_of2 (ls := [some (vr G 139), some (vi x1), some (vi x2), some (vi x3), none, none, none]) hG hl kX12_gainOf rfl (Nat.le_of_ble_eq_true rfl) rfl rfl rfl rfl rfl (fun X eG el hX => ?_)
  subst eG; subst el
  unfold f_X12_gainOf at h
  refine x_aloadn hX dX12_gainOf_0 rfl ?_
  refine x_getRj (j := 140) hX dX12_gainOf_1 fl_X12_7 rfl (st139 hs) rfl ?_
  refine x_sipush hX dX12_gainOf_4 sp_461 ?_
  refine x_iloadn hX dX12_gainOf_7 rfl ?_
  refine x_iadd hX dX12_gainOf_8 ?_
  obtain ⟨b_1, h⟩ := gi_of h
  refine x_iald hX dX12_gainOf_9 (st140 hs) b_1 rfl ?_
  obtain ⟨x4_2, ex4_2, h⟩ := bnd_of h
  refine x_istore (ls' := [some (vr (xG X) 139), some (vi x1), some (vi x2), some (vi x3), some (vi x4_2), none, none]) hX dX12_gainOf_10 rfl ex4_2 rfl ?_
  refine x_aloadn hX dX12_gainOf_12 rfl ?_
  refine x_getRj (j := 140) hX dX12_gainOf_13 fl_X12_7 rfl (st139 hs) rfl ?_
  refine x_sipush hX dX12_gainOf_16 sp_461 ?_
  refine x_iloadn hX dX12_gainOf_19 rfl ?_
  refine x_iadd hX dX12_gainOf_20 ?_
  obtain ⟨b_3, h⟩ := gi_of h
  refine x_iald hX dX12_gainOf_21 (st140 hs) b_3 rfl ?_
  obtain ⟨x5_4, ex5_4, h⟩ := bnd_of h
  refine x_istore (ls' := [some (vr (xG X) 139), some (vi x1), some (vi x2), some (vi x3), some (vi x4_2), some (vi x5_4), none]) hX dX12_gainOf_22 rfl ex5_4 rfl ?_
  refine x_aloadn hX dX12_gainOf_24 rfl ?_
  refine x_getRj (j := 140) hX dX12_gainOf_25 fl_X12_7 rfl (st139 hs) rfl ?_
  refine x_bipush hX dX12_gainOf_28 bp_6 ?_
  refine x_iald hX dX12_gainOf_30 (st140 hs) inc_6_469 ixc_6 ?_
  obtain ⟨x6_5, ex6_5, h⟩ := bnd_of h
  refine x_istore (ls' := [some (vr (xG X) 139), some (vi x1), some (vi x2), some (vi x3), some (vi x4_2), some (vi x5_4), some (vi x6_5)]) hX dX12_gainOf_31 rfl ex6_5 rfl ?_
  refine x_aloadn hX dX12_gainOf_33 rfl ?_
  refine x_iload hX dX12_gainOf_34 rfl ?_
  refine x_iload hX dX12_gainOf_36 rfl ?_
  obtain ⟨r_6, M_7, er_6, h⟩ := cl2_of h
  refine x_callVi (t := 11) (As := [vi x4_2, vi x6_5]) (rest := []) hX dX12_gainOf_38 (c_X12_routes (gk hX) (gl hX) hs x4_2 x6_5 M _ _ er_6) kX12_routes vX12_routes w_1963 (st139 hs) rfl rfl rfl rfl (Nat.le_of_ble_eq_true rfl) z0 ?_
  refine x_aloadn hX dX12_gainOf_41 rfl ?_
  refine x_iload hX dX12_gainOf_42 rfl ?_
  refine x_iload hX dX12_gainOf_44 rfl ?_
  obtain ⟨r_8, M_9, er_8, h⟩ := cl2_of h
  refine x_callVi (t := 11) (As := [vi x5_4, vi x6_5]) (rest := [vi r_6]) hX dX12_gainOf_46 (c_X12_routes (gk hX) (gl hX) hs x5_4 x6_5 M_7 _ _ er_8) kX12_routes vX12_routes w_1963 (st139 hs) rfl rfl rfl rfl (Nat.le_of_ble_eq_true rfl) z0 ?_
  refine x_iadd hX dX12_gainOf_49 ?_
  refine x_aloadn hX dX12_gainOf_50 rfl ?_
  refine x_iload hX dX12_gainOf_51 rfl ?_
  refine x_iconst hX dX12_gainOf_53 ?_
  refine x_iloadn hX dX12_gainOf_54 rfl ?_
  refine x_ishl hX dX12_gainOf_55 ?_
  refine x_iconst hX dX12_gainOf_56 ?_
  refine x_ixor hX dX12_gainOf_57 ?_
  refine x_iand hX dX12_gainOf_58 ?_
  refine x_iload hX dX12_gainOf_59 rfl ?_
  obtain ⟨r_10, M_11, er_10, h⟩ := cl2_of h
  refine x_callVi (t := 11) (As := [vi (i_and x4_2 (i_xor (i_shl 1 x1) (-1))), vi x6_5]) (rest := [vi (r_6 + r_8)]) hX dX12_gainOf_61 (c_X12_routes (gk hX) (gl hX) hs (i_and x4_2 (i_xor (i_shl 1 x1) (-1))) x6_5 M_9 _ _ er_10) kX12_routes vX12_routes w_1963 (st139 hs) rfl rfl rfl rfl (Nat.le_of_ble_eq_true rfl) z0 ?_
  refine x_isub hX dX12_gainOf_64 ?_
  refine x_aloadn hX dX12_gainOf_65 rfl ?_
  refine x_iload hX dX12_gainOf_66 rfl ?_
  refine x_iconst hX dX12_gainOf_68 ?_
  refine x_iloadn hX dX12_gainOf_69 rfl ?_
  refine x_ishl hX dX12_gainOf_70 ?_
  refine x_ior hX dX12_gainOf_71 ?_
  refine x_iload hX dX12_gainOf_72 rfl ?_
  obtain ⟨r_12, M_13, er_12, h⟩ := cl2_of h
  refine x_callVi (t := 11) (As := [vi (i_or x5_4 (i_shl 1 x1)), vi x6_5]) (rest := [vi ((r_6 + r_8) - r_10)]) hX dX12_gainOf_74 (c_X12_routes (gk hX) (gl hX) hs (i_or x5_4 (i_shl 1 x1)) x6_5 M_11 _ _ er_12) kX12_routes vX12_routes w_1963 (st139 hs) rfl rfl rfl rfl (Nat.le_of_ble_eq_true rfl) z0 ?_
  refine x_isub hX dX12_gainOf_77 ?_
  cases h
  exact x_iret hX dX12_gainOf_78 rfl
set_option maxRecDepth 100000 in
set_option maxHeartbeats 4000000 in
theorem tj_X12_batchRoute_14 {X : Cxt} (hX : Gd X RX12 cX12_batchRoute 2 (some .int) 6) (hs : SOK (xG X))   (x1 : Int) (y1 : Int) (M : Mem) (r : Int) (Mr : Mem) (h : j_X12_batchRoute_14 x1 y1 M = some (r, Mr)) : V X 0 0 (Qn X (some (vi r)) Mr) 14 [some (vr (xG X) 139), some (vi x1)] [vi y1, vr (xG X) 139] M := by
  unfold j_X12_batchRoute_14 at h
  obtain ⟨M_3, eM_3, h⟩ := bnd_of h
  refine x_putI hX dX12_batchRoute_14 fp_X12_70 rfl (st139 hs) (x_meq eM_3 ?_)
  refine x_aloadn hX dX12_batchRoute_17 rfl ?_
  refine x_getI hX dX12_batchRoute_18 fl_X12_70 rfl (st139 hs) ?_
  refine x_if_le (tgt := 28) hX dX12_batchRoute_21 (by decide) rfl (fun hc => ?_) (fun hc => ?_)
  · replace h := (if_pos hc).symm.trans h
    refine x_iconst hX dX12_batchRoute_24 ?_
    refine x_goto (tgt := 49) hX dX12_batchRoute_25 (by decide) ?_
    cases h
    exact x_iret hX dX12_batchRoute_49 rfl
  · replace h := (if_neg hc).symm.trans h
    refine x_aloadn hX dX12_batchRoute_28 rfl ?_
    refine x_aloadn hX dX12_batchRoute_29 rfl ?_
    refine x_getRj (j := 140) hX dX12_batchRoute_30 fl_X12_7 rfl (st139 hs) rfl ?_
    refine x_sipush hX dX12_batchRoute_33 sp_461 ?_
    refine x_iloadn hX dX12_batchRoute_36 rfl ?_
    refine x_iadd hX dX12_batchRoute_37 ?_
    obtain ⟨b_4, h⟩ := gi_of h
    refine x_iald hX dX12_batchRoute_38 (st140 hs) b_4 rfl ?_
    refine x_aloadn hX dX12_batchRoute_39 rfl ?_
    refine x_getRj (j := 140) hX dX12_batchRoute_40 fl_X12_7 rfl (st139 hs) rfl ?_
    refine x_bipush hX dX12_batchRoute_43 bp_6 ?_
    refine x_iald hX dX12_batchRoute_45 (st140 hs) inc_6_469 ixc_6 ?_
    obtain ⟨r_5, M_6, er_5, h⟩ := cl2_of h
    refine x_callVi (t := 11) (As := [vi (M_3 140 (ix (461 + x1))), vi (M_3 140 6)]) (rest := []) hX dX12_batchRoute_46 (c_X12_routes (gk hX) (gl hX) hs (M_3 140 (ix (461 + x1))) (M_3 140 6) M_3 _ _ er_5) kX12_routes vX12_routes w_1963 (st139 hs) rfl rfl rfl rfl (Nat.le_of_ble_eq_true rfl) z0 ?_
    cases h
    exact x_iret hX dX12_batchRoute_49 rfl
set_option maxRecDepth 100000 in
set_option maxHeartbeats 4000000 in
theorem c_X12_batchRoute {l : Launch} {G : Gx} (hG : GOK G) (hl : l.stackTraces = false) (hs : SOK G)  (x1 : Int) (M : Mem) (r : Int) (Mr : Mem) (h : f_X12_batchRoute x1 M = some (r, Mr)) : Cn l G mX12_batchRoute 6 [vr G 139, vi x1] M (some (vi r)) Mr := by
  refine Cn_of2 (ls := [some (vr G 139), some (vi x1)]) hG hl kX12_batchRoute rfl (Nat.le_of_ble_eq_true rfl) rfl rfl rfl rfl rfl (fun X eG el hX => ?_)
  subst eG; subst el
  unfold f_X12_batchRoute at h
  refine x_aloadn hX dX12_batchRoute_0 rfl ?_
  refine x_aloadn hX dX12_batchRoute_1 rfl ?_
  refine x_iloadn hX dX12_batchRoute_2 rfl ?_
  obtain ⟨r_1, er_1, h⟩ := cl1_of h
  refine x_callVi (t := 11) (As := [vi x1]) (rest := [vr (xG X) 139]) hX dX12_batchRoute_3 (c_X12_isBatch (gk hX) (gl hX) hs x1 M _ er_1) kX12_isBatch vX12_isBatch w_1931 (st139 hs) rfl rfl rfl rfl (Nat.le_of_ble_eq_true rfl) z0 ?_
  refine x_if_eq (tgt := 13) hX dX12_batchRoute_6 (by decide) rfl (fun hc => ?_) (fun hc => ?_)
  · replace h := (if_pos hc).symm.trans h
    refine x_iconst hX dX12_batchRoute_13 ?_
    exact x_weak [true, true] rfl (tj_X12_batchRoute_14 hX hs x1 1 M r Mr h)
  · replace h := (if_neg hc).symm.trans h
    refine x_iconst hX dX12_batchRoute_9 ?_
    refine x_goto (tgt := 14) hX dX12_batchRoute_10 (by decide) ?_
    exact x_weak [true, true] rfl (tj_X12_batchRoute_14 hX hs x1 0 M r Mr h)
set_option maxRecDepth 100000 in
set_option maxHeartbeats 4000000 in
theorem tj_X12_bestPolicy_73_30 {X : Cxt} (hX : Gd X RX12 cX12_bestPolicy 4 (some .int) 6) (hs : SOK (xG X))   (x1 : Int) (x3 : Int) (y0 : Int) (M : Mem) {Q : State → Prop} (o : (Int × Int × Mem) ⊕ ((Int × Mem) ⊕ (Int × Mem))) (h : j_X12_bestPolicy_73_30 x1 x3 y0 M = some o) (hP : ∀ y, o = .inl y → V X 0 0 Q 30 [some (vr (xG X) 139), some (vi x1), some (vi y.1), some (vi y.2.1)] [] y.2.2) (hE : ∀ z, o = .inr (.inl z) → V X 0 0 Q 80 [none, none, some (vi z.1), none] [] z.2) (hR : ∀ q, o = .inr (.inr q) → Q = Qn X (some (vi q.1)) q.2) : V X 0 0 Q 73 [some (vr (xG X) 139), some (vi x1), none, some (vi x3)] [vi y0] M := by
  unfold j_X12_bestPolicy_73_30 at h
  refine x_istoren (ls' := [some (vr (xG X) 139), some (vi x1), some (vi y0), some (vi x3)]) hX dX12_bestPolicy_73 rfl rfl rfl ?_
  obtain ⟨x3_10, ex3_10, h⟩ := bnd_of h
  refine x_iinc (ls' := [some (vr (xG X) 139), some (vi x1), some (vi y0), some (vi x3_10)]) hX dX12_bestPolicy_74 rfl rfl ex3_10 rfl ?_
  refine x_goto (tgt := 30) hX dX12_bestPolicy_77 (by decide) ?_
  exact x_weak [true, true, true, true] rfl (hP (y0, x3_10, M) (Option.some.inj h).symm)
set_option maxRecDepth 100000 in
set_option maxHeartbeats 4000000 in
theorem ts_X12_bestPolicy_30 {X : Cxt} (hX : Gd X RX12 cX12_bestPolicy 4 (some .int) 6) (hs : SOK (xG X))  (x1 : Int) (x2 : Int) (x3 : Int) (M : Mem) {Q : State → Prop} (o : (Int × Int × Mem) ⊕ ((Int × Mem) ⊕ (Int × Mem))) (h : s_X12_bestPolicy_30 x1 x2 x3 M = some o) (hP : ∀ y, o = .inl y → V X 0 0 Q 30 [some (vr (xG X) 139), some (vi x1), some (vi y.1), some (vi y.2.1)] [] y.2.2) (hE : ∀ z, o = .inr (.inl z) → V X 0 0 Q 80 [none, none, some (vi z.1), none] [] z.2) (hR : ∀ q, o = .inr (.inr q) → Q = Qn X (some (vi q.1)) q.2) : V X 0 0 Q 30 [some (vr (xG X) 139), some (vi x1), some (vi x2), some (vi x3)] [] M := by
  unfold s_X12_bestPolicy_30 at h
  refine x_iloadn hX dX12_bestPolicy_30 rfl ?_
  refine x_iconst hX dX12_bestPolicy_31 ?_
  refine x_icmp_ge (tgt := 80) hX dX12_bestPolicy_32 (by decide) rfl cw_4 (fun hc => ?_) (fun hc => ?_)
  · replace h := (if_pos hc).symm.trans h
    refine x_aloadn hX dX12_bestPolicy_35 rfl ?_
    refine x_aloadn hX dX12_bestPolicy_36 rfl ?_
    refine x_getRj (j := 140) hX dX12_bestPolicy_37 fl_X12_7 rfl (st139 hs) rfl ?_
    refine x_sipush hX dX12_bestPolicy_40 sp_461 ?_
    refine x_iloadn hX dX12_bestPolicy_43 rfl ?_
    refine x_iadd hX dX12_bestPolicy_44 ?_
    obtain ⟨b_4, h⟩ := gi_of h
    refine x_iald hX dX12_bestPolicy_45 (st140 hs) b_4 rfl ?_
    refine x_iloadn hX dX12_bestPolicy_46 rfl ?_
    obtain ⟨r_5, M_6, er_5, h⟩ := cl2_of h
    refine x_callVi (t := 11) (As := [vi (M 140 (ix (461 + x1))), vi x3]) (rest := []) hX dX12_bestPolicy_47 (c_X12_routes (gk hX) (gl hX) hs (M 140 (ix (461 + x1))) x3 M _ _ er_5) kX12_routes vX12_routes w_1963 (st139 hs) rfl rfl rfl rfl (Nat.le_of_ble_eq_true rfl) z0 ?_
    refine x_aloadn hX dX12_bestPolicy_50 rfl ?_
    refine x_aloadn hX dX12_bestPolicy_51 rfl ?_
    refine x_getRj (j := 140) hX dX12_bestPolicy_52 fl_X12_7 rfl (st139 hs) rfl ?_
    refine x_sipush hX dX12_bestPolicy_55 sp_461 ?_
    refine x_iloadn hX dX12_bestPolicy_58 rfl ?_
    refine x_iadd hX dX12_bestPolicy_59 ?_
    obtain ⟨b_7, h⟩ := gi_of h
    refine x_iald hX dX12_bestPolicy_60 (st140 hs) b_7 rfl ?_
    refine x_iloadn hX dX12_bestPolicy_61 rfl ?_
    obtain ⟨r_8, M_9, er_8, h⟩ := cl2_of h
    refine x_callVi (t := 11) (As := [vi (M_6 140 (ix (461 + x1))), vi x2]) (rest := [vi r_5]) hX dX12_bestPolicy_62 (c_X12_routes (gk hX) (gl hX) hs (M_6 140 (ix (461 + x1))) x2 M_6 _ _ er_8) kX12_routes vX12_routes w_1963 (st139 hs) rfl rfl rfl rfl (Nat.le_of_ble_eq_true rfl) z0 ?_
    refine x_icmp_ge (tgt := 72) hX dX12_bestPolicy_65 (by decide) rfl rfl (fun hc => ?_) (fun hc => ?_)
    · replace h := (if_pos hc).symm.trans h
      refine x_iloadn hX dX12_bestPolicy_68 rfl ?_
      refine x_goto (tgt := 73) hX dX12_bestPolicy_69 (by decide) ?_
      exact x_weak [true, true, false, true] rfl (tj_X12_bestPolicy_73_30 hX hs x1 x3 x3 M_9 o h hP hE hR)
    · replace h := (if_neg hc).symm.trans h
      refine x_iloadn hX dX12_bestPolicy_72 rfl ?_
      exact x_weak [true, true, false, true] rfl (tj_X12_bestPolicy_73_30 hX hs x1 x3 x2 M_9 o h hP hE hR)
  · replace h := (if_neg hc).symm.trans h
    exact x_weak [false, false, true, false] rfl (hE (x2, M) (Option.some.inj h).symm)
set_option maxRecDepth 100000 in
set_option maxHeartbeats 4000000 in
theorem tj_X12_bestPolicy_14 {X : Cxt} (hX : Gd X RX12 cX12_bestPolicy 4 (some .int) 6) (hs : SOK (xG X))   (x1 : Int) (y1 : Int) (M : Mem) (r : Int) (Mr : Mem) (h : j_X12_bestPolicy_14 x1 y1 M = some (r, Mr)) : V X 0 0 (Qn X (some (vi r)) Mr) 14 [some (vr (xG X) 139), some (vi x1), none, none] [vi y1, vr (xG X) 139] M := by
  unfold j_X12_bestPolicy_14 at h
  obtain ⟨M_3, eM_3, h⟩ := bnd_of h
  refine x_putI hX dX12_bestPolicy_14 fp_X12_70 rfl (st139 hs) (x_meq eM_3 ?_)
  refine x_aloadn hX dX12_bestPolicy_17 rfl ?_
  refine x_getI hX dX12_bestPolicy_18 fl_X12_70 rfl (st139 hs) ?_
  refine x_if_le (tgt := 26) hX dX12_bestPolicy_21 (by decide) rfl (fun hc => ?_) (fun hc => ?_)
  · replace h := (if_pos hc).symm.trans h
    refine x_iconst hX dX12_bestPolicy_24 ?_
    cases h
    exact x_iret hX dX12_bestPolicy_25 rfl
  · replace h := (if_neg hc).symm.trans h
    refine x_iconst hX dX12_bestPolicy_26 ?_
    refine x_istoren (ls' := [some (vr (xG X) 139), some (vi x1), some (vi 0), none]) hX dX12_bestPolicy_27 rfl rfl rfl ?_
    refine x_iconst hX dX12_bestPolicy_28 ?_
    refine x_istoren (ls' := [some (vr (xG X) 139), some (vi x1), some (vi 0), some (vi 1)]) hX dX12_bestPolicy_29 rfl rfl rfl ?_
    refine x_weak (ls' := [some (vr (xG X) 139), some (vi x1), some (vi 0), some (vi 1)]) [true, true, true, true] rfl ?_
    refine lp_use (x := (0, 1, M_3)) (P := fun x => V X 0 0 (Qn X (some (vi r)) Mr) 30 [some (vr (xG X) 139), some (vi x1), some (vi x.1), some (vi x.2.1)] [] x.2.2) (PE := fun z_11 => V X 0 0 (Qn X (some (vi r)) Mr) 80 [none, none, some (vi z_11.1), none] [] z_11.2) (PR := fun q => (Qn X (some (vi r)) Mr) = Qn X (some (vi q.1)) q.2) h (fun x o hh hP hE hR => ts_X12_bestPolicy_30 hX hs x1 x.1 x.2.1 x.2.2 o hh hP hE hR) (fun z_11 h => ?_) (fun q h => ?_)
    · show V X 0 0 (Qn X (some (vi r)) Mr) 80 [none, none, some (vi z_11.1), none] [] z_11.2
      refine x_iloadn hX dX12_bestPolicy_80 rfl ?_
      cases h
      exact x_iret hX dX12_bestPolicy_81 rfl
    · cases h; rfl
set_option maxRecDepth 100000 in
set_option maxHeartbeats 4000000 in
theorem c_X12_bestPolicy {l : Launch} {G : Gx} (hG : GOK G) (hl : l.stackTraces = false) (hs : SOK G)  (x1 : Int) (M : Mem) (r : Int) (Mr : Mem) (h : f_X12_bestPolicy x1 M = some (r, Mr)) : Cn l G mX12_bestPolicy 6 [vr G 139, vi x1] M (some (vi r)) Mr := by
  refine Cn_of2 (ls := [some (vr G 139), some (vi x1), none, none]) hG hl kX12_bestPolicy rfl (Nat.le_of_ble_eq_true rfl) rfl rfl rfl rfl rfl (fun X eG el hX => ?_)
  subst eG; subst el
  unfold f_X12_bestPolicy at h
  refine x_aloadn hX dX12_bestPolicy_0 rfl ?_
  refine x_aloadn hX dX12_bestPolicy_1 rfl ?_
  refine x_iloadn hX dX12_bestPolicy_2 rfl ?_
  obtain ⟨r_1, er_1, h⟩ := cl1_of h
  refine x_callVi (t := 11) (As := [vi x1]) (rest := [vr (xG X) 139]) hX dX12_bestPolicy_3 (c_X12_isBatch (gk hX) (gl hX) hs x1 M _ er_1) kX12_isBatch vX12_isBatch w_1931 (st139 hs) rfl rfl rfl rfl (Nat.le_of_ble_eq_true rfl) z0 ?_
  refine x_if_eq (tgt := 13) hX dX12_bestPolicy_6 (by decide) rfl (fun hc => ?_) (fun hc => ?_)
  · replace h := (if_pos hc).symm.trans h
    refine x_iconst hX dX12_bestPolicy_13 ?_
    exact x_weak [true, true, false, false] rfl (tj_X12_bestPolicy_14 hX hs x1 1 M r Mr h)
  · replace h := (if_neg hc).symm.trans h
    refine x_iconst hX dX12_bestPolicy_9 ?_
    refine x_goto (tgt := 14) hX dX12_bestPolicy_10 (by decide) ?_
    exact x_weak [true, true, false, false] rfl (tj_X12_bestPolicy_14 hX hs x1 0 M r Mr h)
set_option maxRecDepth 100000 in
set_option maxHeartbeats 4000000 in
theorem tj_X12_laysStops_93_56 {X : Cxt} (hX : Gd X RX12 cX12_laysStops 3 (none) 6) (hs : SOK (xG X))   (x2 : Int) (y1 : Int) (y2 : Int) (M : Mem) {Q : State → Prop} (o : (Int × Mem) ⊕ ((Mem) ⊕ (Mem))) (h : j_X12_laysStops_93_56 x2 y1 y2 M = some o) (hP : ∀ y, o = .inl y → V X 0 0 Q 56 [some (vr (xG X) 139), none, some (vi y.1)] [] y.2) (hE : ∀ z, o = .inr (.inl z) → V X 0 0 Q 102 [none, none, none] [] z) (hR : ∀ q, o = .inr (.inr q) → Q = Qn X none q) : V X 0 0 Q 93 [some (vr (xG X) 139), none, some (vi x2)] [vi y2, vi y1, vr (xG X) 139] M := by
  unfold j_X12_laysStops_93_56 at h
  obtain ⟨M_10, er_9, h⟩ := cl1_of h
  refine x_callVv (t := 11) (As := [vi y1, vi y2]) (rest := []) hX dX12_laysStops_93 (c_X12_goes (gk hX) (gl hX) hs y1 y2 M _ er_9) kX12_goes vX12_goes w_2079 (st139 hs) rfl rfl rfl rfl (Nat.le_of_ble_eq_true rfl) z0 ?_
  obtain ⟨x2_11, ex2_11, h⟩ := bnd_of h
  refine x_iinc (ls' := [some (vr (xG X) 139), none, some (vi x2_11)]) hX dX12_laysStops_96 rfl rfl ex2_11 rfl ?_
  refine x_goto (tgt := 56) hX dX12_laysStops_99 (by decide) ?_
  exact x_weak [true, false, true] rfl (hP (x2_11, M_10) (Option.some.inj h).symm)
set_option maxRecDepth 100000 in
set_option maxHeartbeats 4000000 in
theorem tj_X12_laysStops_88_56 {X : Cxt} (hX : Gd X RX12 cX12_laysStops 3 (none) 6) (hs : SOK (xG X))   (x2 : Int) (y1 : Int) (M : Mem) {Q : State → Prop} (o : (Int × Mem) ⊕ ((Mem) ⊕ (Mem))) (h : j_X12_laysStops_88_56 x2 y1 M = some o) (hP : ∀ y, o = .inl y → V X 0 0 Q 56 [some (vr (xG X) 139), none, some (vi y.1)] [] y.2) (hE : ∀ z, o = .inr (.inl z) → V X 0 0 Q 102 [none, none, none] [] z) (hR : ∀ q, o = .inr (.inr q) → Q = Qn X none q) : V X 0 0 Q 88 [some (vr (xG X) 139), none, some (vi x2)] [vi y1, vr (xG X) 139] M := by
  unfold j_X12_laysStops_88_56 at h
  refine x_iconst hX dX12_laysStops_88 ?_
  refine x_goto (tgt := 93) hX dX12_laysStops_89 (by decide) ?_
  exact x_weak [true, false, true] rfl (tj_X12_laysStops_93_56 hX hs x2 y1 1 M o h hP hE hR)
set_option maxRecDepth 100000 in
set_option maxHeartbeats 4000000 in
theorem ts_X12_laysStops_56 {X : Cxt} (hX : Gd X RX12 cX12_laysStops 3 (none) 6) (hs : SOK (xG X))  (x2 : Int) (M : Mem) {Q : State → Prop} (o : (Int × Mem) ⊕ ((Mem) ⊕ (Mem))) (h : s_X12_laysStops_56 x2 M = some o) (hP : ∀ y, o = .inl y → V X 0 0 Q 56 [some (vr (xG X) 139), none, some (vi y.1)] [] y.2) (hE : ∀ z, o = .inr (.inl z) → V X 0 0 Q 102 [none, none, none] [] z) (hR : ∀ q, o = .inr (.inr q) → Q = Qn X none q) : V X 0 0 Q 56 [some (vr (xG X) 139), none, some (vi x2)] [] M := by
  unfold s_X12_laysStops_56 at h
  refine x_iloadn hX dX12_laysStops_56 rfl ?_
  refine x_aloadn hX dX12_laysStops_57 rfl ?_
  refine x_getI hX dX12_laysStops_58 fl_X12_190 rfl (st139 hs) ?_
  refine x_icmp_ge (tgt := 102) hX dX12_laysStops_61 (by decide) rfl rfl (fun hc => ?_) (fun hc => ?_)
  · replace h := (if_pos hc).symm.trans h
    refine x_aloadn hX dX12_laysStops_64 rfl ?_
    refine x_aloadn hX dX12_laysStops_65 rfl ?_
    refine x_getRj (j := 146) hX dX12_laysStops_66 fl_X12_29 rfl (st139 hs) rfl ?_
    refine x_iloadn hX dX12_laysStops_69 rfl ?_
    obtain ⟨b_8, h⟩ := gi_of h
    refine x_iald hX dX12_laysStops_70 (st146 hs) b_8 rfl ?_
    refine x_aloadn hX dX12_laysStops_71 rfl ?_
    refine x_getRj (j := 140) hX dX12_laysStops_72 fl_X12_7 rfl (st139 hs) rfl ?_
    refine x_bipush hX dX12_laysStops_75 bp_6 ?_
    refine x_iald hX dX12_laysStops_77 (st140 hs) inc_6_469 ixc_6 ?_
    refine x_iconst hX dX12_laysStops_78 ?_
    refine x_icmp_ne (tgt := 88) hX dX12_laysStops_79 (by decide) rfl cw_1 (fun hc => ?_) (fun hc => ?_)
    · replace h := (if_pos hc).symm.trans h
      refine x_iloadn hX dX12_laysStops_82 rfl ?_
      refine x_iconst hX dX12_laysStops_83 ?_
      refine x_irem hX dX12_laysStops_84 nz_2 ?_
      refine x_if_ne (tgt := 92) hX dX12_laysStops_85 (by decide) rfl (fun hc => ?_) (fun hc => ?_)
      · replace h := (if_pos hc).symm.trans h
        exact x_weak [true, false, true] rfl (tj_X12_laysStops_88_56 hX hs x2 (M 146 (ix x2)) M o h hP hE hR)
      · replace h := (if_neg hc).symm.trans h
        refine x_iconst hX dX12_laysStops_92 ?_
        exact x_weak [true, false, true] rfl (tj_X12_laysStops_93_56 hX hs x2 (M 146 (ix x2)) 0 M o h hP hE hR)
    · replace h := (if_neg hc).symm.trans h
      exact x_weak [true, false, true] rfl (tj_X12_laysStops_88_56 hX hs x2 (M 146 (ix x2)) M o h hP hE hR)
  · replace h := (if_neg hc).symm.trans h
    exact x_weak [false, false, false] rfl (hE M (Option.some.inj h).symm)
set_option maxRecDepth 100000 in
set_option maxHeartbeats 4000000 in
theorem tj_X12_laysStops_36 {X : Cxt} (hX : Gd X RX12 cX12_laysStops 3 (none) 6) (hs : SOK (xG X))   (M : Mem) (Mr : Mem) (h : j_X12_laysStops_36 M = some Mr) : V X 0 0 (Qn X none Mr) 36 [some (vr (xG X) 139), none, none] [] M := by
  unfold j_X12_laysStops_36 at h
  refine x_aloadn hX dX12_laysStops_36 rfl ?_
  refine x_getRj (j := 140) hX dX12_laysStops_37 fl_X12_7 rfl (st139 hs) rfl ?_
  refine x_bipush hX dX12_laysStops_40 bp_6 ?_
  refine x_iald hX dX12_laysStops_42 (st140 hs) inc_6_469 ixc_6 ?_
  refine x_iconst hX dX12_laysStops_43 ?_
  refine x_icmp_ne (tgt := 54) hX dX12_laysStops_44 (by decide) rfl cw_3 (fun hc => ?_) (fun hc => ?_)
  · replace h := (if_pos hc).symm.trans h
    refine x_aloadn hX dX12_laysStops_47 rfl ?_
    obtain ⟨M_7, er_6, h⟩ := cl1_of h
    refine x_callVv (t := 11) (As := []) (rest := []) hX dX12_laysStops_48 (c_X12_stopsCombined (gk hX) (gl hX) hs M _ er_6) kX12_stopsCombined vX12_stopsCombined w_2095 (st139 hs) rfl rfl rfl rfl (Nat.le_of_ble_eq_true rfl) z0 ?_
    refine x_goto (tgt := 102) hX dX12_laysStops_51 (by decide) ?_
    cases h
    exact x_vret hX dX12_laysStops_102 rfl
  · replace h := (if_neg hc).symm.trans h
    refine x_iconst hX dX12_laysStops_54 ?_
    refine x_istoren (ls' := [some (vr (xG X) 139), none, some (vi 0)]) hX dX12_laysStops_55 rfl rfl rfl ?_
    refine x_weak (ls' := [some (vr (xG X) 139), none, some (vi 0)]) [true, false, true] rfl ?_
    refine lp_use (x := (0, M)) (P := fun x => V X 0 0 (Qn X none Mr) 56 [some (vr (xG X) 139), none, some (vi x.1)] [] x.2) (PE := fun z_12 => V X 0 0 (Qn X none Mr) 102 [none, none, none] [] z_12) (PR := fun q => (Qn X none Mr) = Qn X none q) h (fun x o hh hP hE hR => ts_X12_laysStops_56 hX hs x.1 x.2 o hh hP hE hR) (fun z_12 h => ?_) (fun q h => ?_)
    · show V X 0 0 (Qn X none Mr) 102 [none, none, none] [] z_12
      cases h
      exact x_vret hX dX12_laysStops_102 rfl
    · cases h; rfl
set_option maxRecDepth 100000 in
set_option maxHeartbeats 4000000 in
theorem c_X12_laysStops {l : Launch} {G : Gx} (hG : GOK G) (hl : l.stackTraces = false) (hs : SOK G)  (x1 : Int) (M : Mem) (Mr : Mem) (h : f_X12_laysStops x1 M = some Mr) : Cn l G mX12_laysStops 6 [vr G 139, vi x1] M none Mr := by
  refine Cn_of2 (ls := [some (vr G 139), some (vi x1), none]) hG hl kX12_laysStops rfl (Nat.le_of_ble_eq_true rfl) rfl rfl rfl rfl rfl (fun X eG el hX => ?_)
  subst eG; subst el
  unfold f_X12_laysStops at h
  refine x_aloadn hX dX12_laysStops_0 rfl ?_
  refine x_iloadn hX dX12_laysStops_1 rfl ?_
  obtain ⟨M_2, er_1, h⟩ := cl1_of h
  refine x_callVv (t := 11) (As := [vi x1]) (rest := []) hX dX12_laysStops_2 (c_X12_laysAisles (gk hX) (gl hX) hs x1 M _ er_1) kX12_laysAisles vX12_laysAisles w_1979 (st139 hs) rfl rfl rfl rfl (Nat.le_of_ble_eq_true rfl) z0 ?_
  refine x_aloadn hX dX12_laysStops_5 rfl ?_
  refine x_iconst hX dX12_laysStops_6 ?_
  obtain ⟨M_3, eM_3, h⟩ := bnd_of h
  refine x_putI hX dX12_laysStops_7 fp_X12_263 rfl (st139 hs) (x_meq eM_3 ?_)
  refine x_aloadn hX dX12_laysStops_10 rfl ?_
  refine x_getRj (j := 140) hX dX12_laysStops_11 fl_X12_7 rfl (st139 hs) rfl ?_
  refine x_bipush hX dX12_laysStops_14 bp_6 ?_
  refine x_iald hX dX12_laysStops_16 (st140 hs) inc_6_469 ixc_6 ?_
  refine x_iconst hX dX12_laysStops_17 ?_
  refine x_icmp_ne (tgt := 36) hX dX12_laysStops_18 (by decide) rfl cw_2 (fun hc => ?_) (fun hc => ?_)
  · replace h := (if_pos hc).symm.trans h
    refine x_aloadn hX dX12_laysStops_21 rfl ?_
    refine x_getI hX dX12_laysStops_22 fl_X12_190 rfl (st139 hs) ?_
    refine x_iconst hX dX12_laysStops_25 ?_
    refine x_icmp_le (tgt := 36) hX dX12_laysStops_26 (by decide) rfl cw_1 (fun hc => ?_) (fun hc => ?_)
    · replace h := (if_pos hc).symm.trans h
      refine x_aloadn hX dX12_laysStops_29 rfl ?_
      obtain ⟨M_5, er_4, h⟩ := cl1_of h
      refine x_callVv (t := 11) (As := []) (rest := []) hX dX12_laysStops_30 (c_X12_stopsByGaps (gk hX) (gl hX) hs M_3 _ er_4) kX12_stopsByGaps vX12_stopsByGaps w_2075 (st139 hs) rfl rfl rfl rfl (Nat.le_of_ble_eq_true rfl) z0 ?_
      refine x_goto (tgt := 102) hX dX12_laysStops_33 (by decide) ?_
      cases h
      exact x_vret hX dX12_laysStops_102 rfl
    · replace h := (if_neg hc).symm.trans h
      exact x_weak [true, false, false] rfl (tj_X12_laysStops_36 hX hs M_3 Mr h)
  · replace h := (if_neg hc).symm.trans h
    exact x_weak [true, false, false] rfl (tj_X12_laysStops_36 hX hs M_3 Mr h)
set_option maxRecDepth 100000 in
set_option maxHeartbeats 4000000 in
theorem ts_X12_readOrder_47 {X : Cxt} (hX : Gd X RX12 cX12_readOrder 3 (none) 6) (hs : SOK (xG X))  (x2 : Int) (M : Mem) {Q : State → Prop} (o : (Mem) ⊕ ((Mem) ⊕ (Mem))) (h : s_X12_readOrder_47 x2 M = some o) (hP : ∀ y, o = .inl y → V X 0 0 Q 47 [some (vr (xG X) 139), none, some (vi x2)] [] y) (hE : ∀ z, o = .inr (.inl z) → V X 0 0 Q 70 [none, none, none] [] z) (hR : ∀ q, o = .inr (.inr q) → Q = Qn X none q) : V X 0 0 Q 47 [some (vr (xG X) 139), none, some (vi x2)] [] M := by
  unfold s_X12_readOrder_47 at h
  refine x_aloadn hX dX12_readOrder_47 rfl ?_
  obtain ⟨r_9, er_9, h⟩ := cl1_of h
  refine x_callVi (t := 11) (As := []) (rest := []) hX dX12_readOrder_48 (c_X12_isWell (gk hX) (gl hX) hs M _ er_9) kX12_isWell vX12_isWell w_2305 (st139 hs) rfl rfl rfl rfl (Nat.le_of_ble_eq_true rfl) z0 ?_
  refine x_if_eq (tgt := 70) hX dX12_readOrder_51 (by decide) rfl (fun hc => ?_) (fun hc => ?_)
  · replace h := (if_pos hc).symm.trans h
    exact x_weak [false, false, false] rfl (hE M (Option.some.inj h).symm)
  · replace h := (if_neg hc).symm.trans h
    refine x_aloadn hX dX12_readOrder_54 rfl ?_
    obtain ⟨r_11, er_11, h⟩ := cl1_of h
    refine x_callVi (t := 11) (As := []) (rest := []) hX dX12_readOrder_55 (c_X12_wordHere (gk hX) (gl hX) hs M _ er_11) kX12_wordHere vX12_wordHere w_2293 (st139 hs) rfl rfl rfl rfl (Nat.le_of_ble_eq_true rfl) z0 ?_
    refine x_iconst hX dX12_readOrder_58 ?_
    refine x_icmp_ne (tgt := 70) hX dX12_readOrder_59 (by decide) rfl cw_3 (fun hc => ?_) (fun hc => ?_)
    · replace h := (if_pos hc).symm.trans h
      refine x_aloadn hX dX12_readOrder_62 rfl ?_
      refine x_iloadn hX dX12_readOrder_63 rfl ?_
      obtain ⟨M_14, er_13, h⟩ := cl1_of h
      refine x_callVv (t := 11) (As := [vi x2]) (rest := []) hX dX12_readOrder_64 (c_X12_readLine (gk hX) (gl hX) hs x2 M _ er_13) kX12_readLine vX12_readLine w_2325 (st139 hs) rfl rfl rfl rfl (Nat.le_of_ble_eq_true rfl) z0 ?_
      refine x_goto (tgt := 47) hX dX12_readOrder_67 (by decide) ?_
      exact x_weak [true, false, true] rfl (hP M_14 (Option.some.inj h).symm)
    · replace h := (if_neg hc).symm.trans h
      exact x_weak [false, false, false] rfl (hE M (Option.some.inj h).symm)
set_option maxRecDepth 100000 in
set_option maxHeartbeats 4000000 in
theorem tj_X12_readOrder_46 {X : Cxt} (hX : Gd X RX12 cX12_readOrder 3 (none) 6) (hs : SOK (xG X))   (y0 : Int) (M : Mem) (Mr : Mem) (h : j_X12_readOrder_46 y0 M = some Mr) : V X 0 0 (Qn X none Mr) 46 [some (vr (xG X) 139), none, none] [vi y0] M := by
  unfold j_X12_readOrder_46 at h
  refine x_istoren (ls' := [some (vr (xG X) 139), none, some (vi y0)]) hX dX12_readOrder_46 rfl rfl rfl ?_
  refine x_weak (ls' := [some (vr (xG X) 139), none, some (vi y0)]) [true, false, true] rfl ?_
  refine lp_use (x := M) (P := fun x => V X 0 0 (Qn X none Mr) 47 [some (vr (xG X) 139), none, some (vi y0)] [] x) (PE := fun z_15 => V X 0 0 (Qn X none Mr) 70 [none, none, none] [] z_15) (PR := fun q => (Qn X none Mr) = Qn X none q) h (fun x o hh hP hE hR => ts_X12_readOrder_47 hX hs y0 x o hh hP hE hR) (fun z_15 h => ?_) (fun q h => ?_)
  · show V X 0 0 (Qn X none Mr) 70 [none, none, none] [] z_15
    cases h
    exact x_vret hX dX12_readOrder_70 rfl
  · cases h; rfl
set_option maxRecDepth 100000 in
set_option maxHeartbeats 4000000 in
theorem c_X12_readOrder {l : Launch} {G : Gx} (hG : GOK G) (hl : l.stackTraces = false) (hs : SOK G)  (M : Mem) (Mr : Mem) (h : f_X12_readOrder M = some Mr) : Cn l G mX12_readOrder 6 [vr G 139] M none Mr := by
  refine Cn_of2 (ls := [some (vr G 139), none, none]) hG hl kX12_readOrder rfl (Nat.le_of_ble_eq_true rfl) rfl rfl rfl rfl rfl (fun X eG el hX => ?_)
  subst eG; subst el
  unfold f_X12_readOrder at h
  refine x_aloadn hX dX12_readOrder_0 rfl ?_
  refine x_getRj (j := 140) hX dX12_readOrder_1 fl_X12_7 rfl (st139 hs) rfl ?_
  refine x_iconst hX dX12_readOrder_4 ?_
  refine x_iald hX dX12_readOrder_5 (st140 hs) inc_4_469 ixc_4 ?_
  refine x_bipush hX dX12_readOrder_6 bp_16 ?_
  refine x_icmp_ne (tgt := 17) hX dX12_readOrder_8 (by decide) rfl cw_16 (fun hc => ?_) (fun hc => ?_)
  · replace h := (if_pos hc).symm.trans h
    refine x_aloadn hX dX12_readOrder_11 rfl ?_
    refine x_iconst hX dX12_readOrder_12 ?_
    obtain ⟨M_2, er_1, h⟩ := cl1_of h
    refine x_callVv (t := 11) (As := [vi 3]) (rest := []) hX dX12_readOrder_13 (c_X12_fails (gk hX) (gl hX) hs 3 M _ er_1) kX12_fails vX12_fails w_2297 (st139 hs) rfl rfl rfl rfl (Nat.le_of_ble_eq_true rfl) z0 ?_
    cases h
    exact x_vret hX dX12_readOrder_16 rfl
  · replace h := (if_neg hc).symm.trans h
    refine x_aloadn hX dX12_readOrder_17 rfl ?_
    obtain ⟨M_4, er_3, h⟩ := cl1_of h
    refine x_callVv (t := 11) (As := []) (rest := []) hX dX12_readOrder_18 (c_X12_next (gk hX) (gl hX) hs M _ er_3) kX12_next vX12_next w_2272 (st139 hs) rfl rfl rfl rfl (Nat.le_of_ble_eq_true rfl) z0 ?_
    refine x_aloadn hX dX12_readOrder_21 rfl ?_
    refine x_iconst hX dX12_readOrder_22 ?_
    refine x_sipush hX dX12_readOrder_23 sp_9999 ?_
    obtain ⟨r_5, M_6, er_5, h⟩ := cl2_of h
    refine x_callVi (t := 11) (As := [vi 0, vi 9999]) (rest := []) hX dX12_readOrder_26 (c_X12_read (gk hX) (gl hX) hs 0 9999 M_4 _ _ er_5) kX12_read vX12_read w_2301 (st139 hs) rfl rfl rfl rfl (Nat.le_of_ble_eq_true rfl) z0 ?_
    refine x_istoren (ls' := [some (vr (xG X) 139), some (vi r_5), none]) hX dX12_readOrder_29 rfl rfl rfl ?_
    refine x_aloadn hX dX12_readOrder_30 rfl ?_
    obtain ⟨r_7, er_7, h⟩ := cl1_of h
    refine x_callVi (t := 11) (As := []) (rest := []) hX dX12_readOrder_31 (c_X12_isWell (gk hX) (gl hX) hs M_6 _ er_7) kX12_isWell vX12_isWell w_2305 (st139 hs) rfl rfl rfl rfl (Nat.le_of_ble_eq_true rfl) z0 ?_
    refine x_if_eq (tgt := 45) hX dX12_readOrder_34 (by decide) rfl (fun hc => ?_) (fun hc => ?_)
    · replace h := (if_pos hc).symm.trans h
      refine x_iconst hX dX12_readOrder_45 ?_
      exact x_weak [true, false, false] rfl (tj_X12_readOrder_46 hX hs 0 M_6 Mr h)
    · replace h := (if_neg hc).symm.trans h
      refine x_aloadn hX dX12_readOrder_37 rfl ?_
      refine x_iloadn hX dX12_readOrder_38 rfl ?_
      obtain ⟨r_16, M_17, er_16, h⟩ := cl2_of h
      refine x_callVi (t := 11) (As := [vi r_5]) (rest := []) hX dX12_readOrder_39 (c_X12_opensOrder (gk hX) (gl hX) hs r_5 M_6 _ _ er_16) kX12_opensOrder vX12_opensOrder w_1782 (st139 hs) rfl rfl rfl rfl (Nat.le_of_ble_eq_true rfl) z0 ?_
      refine x_goto (tgt := 46) hX dX12_readOrder_42 (by decide) ?_
      exact x_weak [true, false, false] rfl (tj_X12_readOrder_46 hX hs r_16 M_17 Mr h)
set_option maxRecDepth 100000 in
set_option maxHeartbeats 4000000 in
theorem tj_X12_seeksMove_101_27 {X : Cxt} (hX : Gd X RX12 cX12_seeksMove 8 (some .boolean) 7) (hs : SOK (xG X))   (x1 : Int) (x2 : Int) (x3 : Int) (x4 : Int) (x5 : Int) (x6 : Int) (M : Mem) {Q : State → Prop} (o : (Int × Int × Mem) ⊕ ((Int × Mem) ⊕ (Int × Mem))) (h : j_X12_seeksMove_101_27 x1 x2 x3 x4 x5 x6 M = some o) (hP : ∀ y, o = .inl y → V X 0 0 Q 27 [some (vr (xG X) 139), some (vi x1), some (vi x2), some (vi y.1), some (vi x4), some (vi x5), some (vi y.2.1), none] [] y.2.2) (hE : ∀ z, o = .inr (.inl z) → V X 0 0 Q 107 [some (vr (xG X) 139), some (vi x1), some (vi x2), some (vi z.1), some (vi x4), none, none, none] [] z.2) (hR : ∀ q, o = .inr (.inr q) → Q = Qn X (some (vi q.1)) q.2) : V X 0 0 Q 101 [some (vr (xG X) 139), some (vi x1), some (vi x2), some (vi x3), some (vi x4), some (vi x5), some (vi x6), none] [] M := by
  unfold j_X12_seeksMove_101_27 at h
  obtain ⟨x6_5, ex6_5, h⟩ := bnd_of h
  refine x_iinc (ls' := [some (vr (xG X) 139), some (vi x1), some (vi x2), some (vi x3), some (vi x4), some (vi x5), some (vi x6_5), none]) hX dX12_seeksMove_101 rfl rfl ex6_5 rfl ?_
  refine x_goto (tgt := 27) hX dX12_seeksMove_104 (by decide) ?_
  exact x_weak [true, true, true, true, true, true, true, false] rfl (hP (x3, x6_5, M) (Option.some.inj h).symm)
set_option maxRecDepth 100000 in
set_option maxHeartbeats 4000000 in
theorem tj_X12_seeksMove_78_27 {X : Cxt} (hX : Gd X RX12 cX12_seeksMove 8 (some .boolean) 7) (hs : SOK (xG X))   (x1 : Int) (x2 : Int) (x3 : Int) (x4 : Int) (x5 : Int) (x6 : Int) (y0 : Int) (M : Mem) {Q : State → Prop} (o : (Int × Int × Mem) ⊕ ((Int × Mem) ⊕ (Int × Mem))) (h : j_X12_seeksMove_78_27 x1 x2 x3 x4 x5 x6 y0 M = some o) (hP : ∀ y, o = .inl y → V X 0 0 Q 27 [some (vr (xG X) 139), some (vi x1), some (vi x2), some (vi y.1), some (vi x4), some (vi x5), some (vi y.2.1), none] [] y.2.2) (hE : ∀ z, o = .inr (.inl z) → V X 0 0 Q 107 [some (vr (xG X) 139), some (vi x1), some (vi x2), some (vi z.1), some (vi x4), none, none, none] [] z.2) (hR : ∀ q, o = .inr (.inr q) → Q = Qn X (some (vi q.1)) q.2) : V X 0 0 Q 78 [some (vr (xG X) 139), some (vi x1), some (vi x2), some (vi x3), some (vi x4), some (vi x5), some (vi x6), none] [vi y0] M := by
  unfold j_X12_seeksMove_78_27 at h
  refine x_istore (ls' := [some (vr (xG X) 139), some (vi x1), some (vi x2), some (vi x3), some (vi x4), some (vi x5), some (vi x6), some (vi y0)]) hX dX12_seeksMove_78 rfl rfl rfl ?_
  refine x_iload hX dX12_seeksMove_80 rfl ?_
  refine x_iloadn hX dX12_seeksMove_82 rfl ?_
  refine x_icmp_le (tgt := 101) hX dX12_seeksMove_83 (by decide) rfl rfl (fun hc => ?_) (fun hc => ?_)
  · replace h := (if_pos hc).symm.trans h
    refine x_iload hX dX12_seeksMove_86 rfl ?_
    refine x_istoren (ls' := [some (vr (xG X) 139), some (vi x1), some (vi x2), some (vi y0), some (vi x4), some (vi x5), some (vi x6), some (vi y0)]) hX dX12_seeksMove_88 rfl rfl rfl ?_
    refine x_aloadn hX dX12_seeksMove_89 rfl ?_
    refine x_iload hX dX12_seeksMove_90 rfl ?_
    obtain ⟨M_3, eM_3, h⟩ := bnd_of h
    refine x_putI hX dX12_seeksMove_92 fp_X12_248 rfl (st139 hs) (x_meq eM_3 ?_)
    refine x_aloadn hX dX12_seeksMove_95 rfl ?_
    refine x_iload hX dX12_seeksMove_96 rfl ?_
    obtain ⟨M_4, eM_4, h⟩ := bnd_of h
    refine x_putI hX dX12_seeksMove_98 fp_X12_251 rfl (st139 hs) (x_meq eM_4 ?_)
    exact x_weak [true, true, true, true, true, true, true, false] rfl (tj_X12_seeksMove_101_27 hX hs x1 x2 y0 x4 x5 x6 M_4 o h hP hE hR)
  · replace h := (if_neg hc).symm.trans h
    exact x_weak [true, true, true, true, true, true, true, false] rfl (tj_X12_seeksMove_101_27 hX hs x1 x2 x3 x4 x5 x6 M o h hP hE hR)
set_option maxRecDepth 100000 in
set_option maxHeartbeats 4000000 in
theorem tj_X12_seeksMove_77_27 {X : Cxt} (hX : Gd X RX12 cX12_seeksMove 8 (some .boolean) 7) (hs : SOK (xG X))   (x1 : Int) (x2 : Int) (x3 : Int) (x4 : Int) (x5 : Int) (x6 : Int) (M : Mem) {Q : State → Prop} (o : (Int × Int × Mem) ⊕ ((Int × Mem) ⊕ (Int × Mem))) (h : j_X12_seeksMove_77_27 x1 x2 x3 x4 x5 x6 M = some o) (hP : ∀ y, o = .inl y → V X 0 0 Q 27 [some (vr (xG X) 139), some (vi x1), some (vi x2), some (vi y.1), some (vi x4), some (vi x5), some (vi y.2.1), none] [] y.2.2) (hE : ∀ z, o = .inr (.inl z) → V X 0 0 Q 107 [some (vr (xG X) 139), some (vi x1), some (vi x2), some (vi z.1), some (vi x4), none, none, none] [] z.2) (hR : ∀ q, o = .inr (.inr q) → Q = Qn X (some (vi q.1)) q.2) : V X 0 0 Q 77 [some (vr (xG X) 139), some (vi x1), some (vi x2), some (vi x3), some (vi x4), some (vi x5), some (vi x6), none] [] M := by
  unfold j_X12_seeksMove_77_27 at h
  refine x_iconst hX dX12_seeksMove_77 ?_
  exact x_weak [true, true, true, true, true, true, true, false] rfl (tj_X12_seeksMove_78_27 hX hs x1 x2 x3 x4 x5 x6 0 M o h hP hE hR)
set_option maxRecDepth 100000 in
set_option maxHeartbeats 4000000 in
theorem ts_X12_seeksMove_27 {X : Cxt} (hX : Gd X RX12 cX12_seeksMove 8 (some .boolean) 7) (hs : SOK (xG X))  (x1 : Int) (x2 : Int) (x4 : Int) (x5 : Int) (x3 : Int) (x6 : Int) (M : Mem) {Q : State → Prop} (o : (Int × Int × Mem) ⊕ ((Int × Mem) ⊕ (Int × Mem))) (h : s_X12_seeksMove_27 x1 x2 x4 x5 x3 x6 M = some o) (hP : ∀ y, o = .inl y → V X 0 0 Q 27 [some (vr (xG X) 139), some (vi x1), some (vi x2), some (vi y.1), some (vi x4), some (vi x5), some (vi y.2.1), none] [] y.2.2) (hE : ∀ z, o = .inr (.inl z) → V X 0 0 Q 107 [some (vr (xG X) 139), some (vi x1), some (vi x2), some (vi z.1), some (vi x4), none, none, none] [] z.2) (hR : ∀ q, o = .inr (.inr q) → Q = Qn X (some (vi q.1)) q.2) : V X 0 0 Q 27 [some (vr (xG X) 139), some (vi x1), some (vi x2), some (vi x3), some (vi x4), some (vi x5), some (vi x6), none] [] M := by
  unfold s_X12_seeksMove_27 at h
  refine x_iload hX dX12_seeksMove_27 rfl ?_
  refine x_aloadn hX dX12_seeksMove_29 rfl ?_
  refine x_getRj (j := 140) hX dX12_seeksMove_30 fl_X12_7 rfl (st139 hs) rfl ?_
  refine x_iconst hX dX12_seeksMove_33 ?_
  refine x_iald hX dX12_seeksMove_34 (st140 hs) inc_5_469 ixc_5 ?_
  refine x_icmp_ge (tgt := 107) hX dX12_seeksMove_35 (by decide) rfl rfl (fun hc => ?_) (fun hc => ?_)
  · replace h := (if_pos hc).symm.trans h
    refine x_iload hX dX12_seeksMove_38 rfl ?_
    refine x_iconst hX dX12_seeksMove_40 ?_
    refine x_icmp_eq (tgt := 107) hX dX12_seeksMove_41 (by decide) rfl cw_m1 (fun hc => ?_) (fun hc => ?_)
    · replace h := (if_pos hc).symm.trans h
      exact x_weak [true, true, true, true, true, false, false, false] rfl (hE (x3, M) (Option.some.inj h).symm)
    · replace h := (if_neg hc).symm.trans h
      refine x_iload hX dX12_seeksMove_44 rfl ?_
      refine x_iload hX dX12_seeksMove_46 rfl ?_
      refine x_icmp_eq (tgt := 77) hX dX12_seeksMove_48 (by decide) rfl rfl (fun hc => ?_) (fun hc => ?_)
      · replace h := (if_pos hc).symm.trans h
        exact x_weak [true, true, true, true, true, true, true, false] rfl (tj_X12_seeksMove_77_27 hX hs x1 x2 x3 x4 x5 x6 M o h hP hE hR)
      · replace h := (if_neg hc).symm.trans h
        refine x_aloadn hX dX12_seeksMove_51 rfl ?_
        refine x_iload hX dX12_seeksMove_52 rfl ?_
        refine x_iload hX dX12_seeksMove_54 rfl ?_
        refine x_iloadn hX dX12_seeksMove_56 rfl ?_
        refine x_iloadn hX dX12_seeksMove_57 rfl ?_
        obtain ⟨r_6, er_6, h⟩ := cl1_of h
        refine x_callVi (t := 11) (As := [vi x6, vi x4, vi x1, vi x2]) (rest := []) hX dX12_seeksMove_58 (c_X12_takes (gk hX) (gl hX) hs x6 x4 x1 x2 M _ er_6) kX12_takes vX12_takes w_1955 (st139 hs) rfl rfl rfl rfl (Nat.le_of_ble_eq_true rfl) z0 ?_
        refine x_if_eq (tgt := 77) hX dX12_seeksMove_61 (by decide) rfl (fun hc => ?_) (fun hc => ?_)
        · replace h := (if_pos hc).symm.trans h
          exact x_weak [true, true, true, true, true, true, true, false] rfl (tj_X12_seeksMove_77_27 hX hs x1 x2 x3 x4 x5 x6 M o h hP hE hR)
        · replace h := (if_neg hc).symm.trans h
          refine x_aloadn hX dX12_seeksMove_64 rfl ?_
          refine x_iload hX dX12_seeksMove_65 rfl ?_
          refine x_iload hX dX12_seeksMove_67 rfl ?_
          refine x_iload hX dX12_seeksMove_69 rfl ?_
          obtain ⟨r_8, M_9, er_8, h⟩ := cl2_of h
          refine x_callVi (t := 11) (As := [vi x4, vi x5, vi x6]) (rest := []) hX dX12_seeksMove_71 (c_X12_gainOf (gk hX) (gl hX) hs x4 x5 x6 M _ _ er_8) kX12_gainOf vX12_gainOf w_1959 (st139 hs) rfl rfl rfl rfl (Nat.le_of_ble_eq_true rfl) z0 ?_
          refine x_goto (tgt := 78) hX dX12_seeksMove_74 (by decide) ?_
          exact x_weak [true, true, true, true, true, true, true, false] rfl (tj_X12_seeksMove_78_27 hX hs x1 x2 x3 x4 x5 x6 r_8 M_9 o h hP hE hR)
  · replace h := (if_neg hc).symm.trans h
    exact x_weak [true, true, true, true, true, false, false, false] rfl (hE (x3, M) (Option.some.inj h).symm)
set_option maxRecDepth 100000 in
set_option maxHeartbeats 4000000 in
theorem tj_X12_seeksMove_107_5 {X : Cxt} (hX : Gd X RX12 cX12_seeksMove 8 (some .boolean) 7) (hs : SOK (xG X))   (x1 : Int) (x2 : Int) (x3 : Int) (x4 : Int) (M : Mem) {Q : State → Prop} (o : (Int × Int × Mem) ⊕ ((Int × Mem) ⊕ (Int × Mem))) (h : j_X12_seeksMove_107_5 x1 x2 x3 x4 M = some o) (hP : ∀ y, o = .inl y → V X 0 0 Q 5 [some (vr (xG X) 139), some (vi x1), some (vi x2), some (vi y.1), some (vi y.2.1), none, none, none] [] y.2.2) (hE : ∀ z, o = .inr (.inl z) → V X 0 0 Q 113 [none, none, none, some (vi z.1), none, none, none, none] [] z.2) (hR : ∀ q, o = .inr (.inr q) → Q = Qn X (some (vi q.1)) q.2) : V X 0 0 Q 107 [some (vr (xG X) 139), some (vi x1), some (vi x2), some (vi x3), some (vi x4), none, none, none] [] M := by
  unfold j_X12_seeksMove_107_5 at h
  obtain ⟨x4_11, ex4_11, h⟩ := bnd_of h
  refine x_iinc (ls' := [some (vr (xG X) 139), some (vi x1), some (vi x2), some (vi x3), some (vi x4_11), none, none, none]) hX dX12_seeksMove_107 rfl rfl ex4_11 rfl ?_
  refine x_goto (tgt := 5) hX dX12_seeksMove_110 (by decide) ?_
  exact x_weak [true, true, true, true, true, false, false, false] rfl (hP (x3, x4_11, M) (Option.some.inj h).symm)
set_option maxRecDepth 100000 in
set_option maxHeartbeats 4000000 in
theorem ts_X12_seeksMove_5 {X : Cxt} (hX : Gd X RX12 cX12_seeksMove 8 (some .boolean) 7) (hs : SOK (xG X))  (x1 : Int) (x2 : Int) (x3 : Int) (x4 : Int) (M : Mem) {Q : State → Prop} (o : (Int × Int × Mem) ⊕ ((Int × Mem) ⊕ (Int × Mem))) (h : s_X12_seeksMove_5 x1 x2 x3 x4 M = some o) (hP : ∀ y, o = .inl y → V X 0 0 Q 5 [some (vr (xG X) 139), some (vi x1), some (vi x2), some (vi y.1), some (vi y.2.1), none, none, none] [] y.2.2) (hE : ∀ z, o = .inr (.inl z) → V X 0 0 Q 113 [none, none, none, some (vi z.1), none, none, none, none] [] z.2) (hR : ∀ q, o = .inr (.inr q) → Q = Qn X (some (vi q.1)) q.2) : V X 0 0 Q 5 [some (vr (xG X) 139), some (vi x1), some (vi x2), some (vi x3), some (vi x4), none, none, none] [] M := by
  unfold s_X12_seeksMove_5 at h
  refine x_iload hX dX12_seeksMove_5 rfl ?_
  refine x_aloadn hX dX12_seeksMove_7 rfl ?_
  refine x_getRj (j := 140) hX dX12_seeksMove_8 fl_X12_7 rfl (st139 hs) rfl ?_
  refine x_iconst hX dX12_seeksMove_11 ?_
  refine x_iald hX dX12_seeksMove_12 (st140 hs) inc_4_469 ixc_4 ?_
  refine x_icmp_ge (tgt := 113) hX dX12_seeksMove_13 (by decide) rfl rfl (fun hc => ?_) (fun hc => ?_)
  · replace h := (if_pos hc).symm.trans h
    refine x_aloadn hX dX12_seeksMove_16 rfl ?_
    refine x_iload hX dX12_seeksMove_17 rfl ?_
    obtain ⟨r_1, er_1, h⟩ := cl1_of h
    refine x_callVi (t := 11) (As := [vi x4]) (rest := []) hX dX12_seeksMove_19 (c_X12_batchOf (gk hX) (gl hX) hs x4 M _ er_1) kX12_batchOf vX12_batchOf w_1864 (st139 hs) rfl rfl rfl rfl (Nat.le_of_ble_eq_true rfl) z0 ?_
    refine x_istore (ls' := [some (vr (xG X) 139), some (vi x1), some (vi x2), some (vi x3), some (vi x4), some (vi r_1), none, none]) hX dX12_seeksMove_22 rfl rfl rfl ?_
    refine x_iconst hX dX12_seeksMove_24 ?_
    refine x_istore (ls' := [some (vr (xG X) 139), some (vi x1), some (vi x2), some (vi x3), some (vi x4), some (vi r_1), some (vi 0), none]) hX dX12_seeksMove_25 rfl rfl rfl ?_
    refine x_weak (ls' := [some (vr (xG X) 139), some (vi x1), some (vi x2), some (vi x3), some (vi x4), some (vi r_1), some (vi 0), none]) [true, true, true, true, true, true, true, false] rfl ?_
    refine lp_use (x := (x3, 0, M)) (P := fun x => V X 0 0 Q 27 [some (vr (xG X) 139), some (vi x1), some (vi x2), some (vi x.1), some (vi x4), some (vi r_1), some (vi x.2.1), none] [] x.2.2) (PE := fun z_10 => V X 0 0 Q 107 [some (vr (xG X) 139), some (vi x1), some (vi x2), some (vi z_10.1), some (vi x4), none, none, none] [] z_10.2) (PR := fun q => Q = Qn X (some (vi q.1)) q.2) h (fun x o hh hP hE hR => ts_X12_seeksMove_27 hX hs x1 x2 x4 r_1 x.1 x.2.1 x.2.2 o hh hP hE hR) (fun z_10 h => ?_) (fun q h => ?_)
    · show V X 0 0 Q 107 [some (vr (xG X) 139), some (vi x1), some (vi x2), some (vi z_10.1), some (vi x4), none, none, none] [] z_10.2
      exact x_weak [true, true, true, true, true, false, false, false] rfl (tj_X12_seeksMove_107_5 hX hs x1 x2 z_10.1 x4 z_10.2 o h hP hE hR)
    · exact hR q (Option.some.inj h).symm
  · replace h := (if_neg hc).symm.trans h
    exact x_weak [false, false, false, true, false, false, false, false] rfl (hE (x3, M) (Option.some.inj h).symm)
set_option maxRecDepth 100000 in
set_option maxHeartbeats 4000000 in
theorem c_X12_seeksMove {l : Launch} {G : Gx} (hG : GOK G) (hl : l.stackTraces = false) (hs : SOK G)  (x1 : Int) (x2 : Int) (M : Mem) (r : Int) (Mr : Mem) (h : f_X12_seeksMove x1 x2 M = some (r, Mr)) : Cn l G mX12_seeksMove 7 [vr G 139, vi x1, vi x2] M (some (vi r)) Mr := by
  refine Cn_of2 (ls := [some (vr G 139), some (vi x1), some (vi x2), none, none, none, none, none]) hG hl kX12_seeksMove rfl (Nat.le_of_ble_eq_true rfl) rfl rfl rfl rfl rfl (fun X eG el hX => ?_)
  subst eG; subst el
  unfold f_X12_seeksMove at h
  refine x_iconst hX dX12_seeksMove_0 ?_
  refine x_istoren (ls' := [some (vr (xG X) 139), some (vi x1), some (vi x2), some (vi 0), none, none, none, none]) hX dX12_seeksMove_1 rfl rfl rfl ?_
  refine x_iconst hX dX12_seeksMove_2 ?_
  refine x_istore (ls' := [some (vr (xG X) 139), some (vi x1), some (vi x2), some (vi 0), some (vi 0), none, none, none]) hX dX12_seeksMove_3 rfl rfl rfl ?_
  refine x_weak (ls' := [some (vr (xG X) 139), some (vi x1), some (vi x2), some (vi 0), some (vi 0), none, none, none]) [true, true, true, true, true, false, false, false] rfl ?_
  refine lp_use (x := (0, 0, M)) (P := fun x => V X 0 0 (Qn X (some (vi r)) Mr) 5 [some (vr (xG X) 139), some (vi x1), some (vi x2), some (vi x.1), some (vi x.2.1), none, none, none] [] x.2.2) (PE := fun z_12 => V X 0 0 (Qn X (some (vi r)) Mr) 113 [none, none, none, some (vi z_12.1), none, none, none, none] [] z_12.2) (PR := fun q => (Qn X (some (vi r)) Mr) = Qn X (some (vi q.1)) q.2) h (fun x o hh hP hE hR => ts_X12_seeksMove_5 hX hs x1 x2 x.1 x.2.1 x.2.2 o hh hP hE hR) (fun z_12 h => ?_) (fun q h => ?_)
  · show V X 0 0 (Qn X (some (vi r)) Mr) 113 [none, none, none, some (vi z_12.1), none, none, none, none] [] z_12.2
    refine x_iloadn hX dX12_seeksMove_113 rfl ?_
    refine x_if_le (tgt := 121) hX dX12_seeksMove_114 (by decide) rfl (fun hc => ?_) (fun hc => ?_)
    · replace h := (if_pos hc).symm.trans h
      refine x_iconst hX dX12_seeksMove_117 ?_
      refine x_goto (tgt := 122) hX dX12_seeksMove_118 (by decide) ?_
      cases h
      exact x_zret hX dX12_seeksMove_122 (Or.inr cw_1) rfl
    · replace h := (if_neg hc).symm.trans h
      refine x_iconst hX dX12_seeksMove_121 ?_
      cases h
      exact x_zret hX dX12_seeksMove_122 (Or.inl cw_0) rfl
  · cases h; rfl
