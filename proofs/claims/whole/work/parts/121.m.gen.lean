-- written by wip/gen/emit.py: X12_lateOrders, X12_totalTardiness, X12_meanTardinessNumerator, X12_meanTardinessDenominator, X12_sortBatches, X12_workTime, X12_startTime, X12_leaveTime
set_option maxRecDepth 100000 in
set_option maxHeartbeats 4000000 in
theorem tj_X12_lateOrders_56_13 {X : Cxt} (hX : Gd X RX12 cX12_lateOrders 4 (some .int) 9) (hs : SOK (xG X))   (x2 : Int) (y0 : Int) (y1 : Int) (M : Mem) {Q : State → Prop} (o : (Int × Int) ⊕ ((Int) ⊕ (Int × Mem))) (h : j_X12_lateOrders_56_13 x2 y0 y1 M = some o) (hP : ∀ y, o = .inl y → V X 0 0 Q 13 [some (vr (xG X) 139), some (vi y.1), some (vi y.2), none] [] M) (hE : ∀ z, o = .inr (.inl z) → V X 0 0 Q 64 [none, some (vi z), none, none] [] M) (hR : ∀ q, o = .inr (.inr q) → Q = Qn X (some (vi q.1)) q.2) : V X 0 0 Q 56 [some (vr (xG X) 139), none, some (vi x2), none] [vi y1, vi y0] M := by
  unfold j_X12_lateOrders_56_13 at h
  refine x_ior hX dX12_lateOrders_56 ?_
  obtain ⟨x1_6, ex1_6, h⟩ := bnd_of h
  refine x_istoren (ls' := [some (vr (xG X) 139), some (vi x1_6), some (vi x2), none]) hX dX12_lateOrders_57 rfl ex1_6 rfl ?_
  obtain ⟨x2_7, ex2_7, h⟩ := bnd_of h
  refine x_iinc (ls' := [some (vr (xG X) 139), some (vi x1_6), some (vi x2_7), none]) hX dX12_lateOrders_58 rfl rfl ex2_7 rfl ?_
  refine x_goto (tgt := 13) hX dX12_lateOrders_61 (by decide) ?_
  exact x_weak [true, true, true, false] rfl (hP (x1_6, x2_7) (Option.some.inj h).symm)
set_option maxRecDepth 100000 in
set_option maxHeartbeats 4000000 in
theorem tj_X12_lateOrders_55_13 {X : Cxt} (hX : Gd X RX12 cX12_lateOrders 4 (some .int) 9) (hs : SOK (xG X))   (x2 : Int) (y0 : Int) (M : Mem) {Q : State → Prop} (o : (Int × Int) ⊕ ((Int) ⊕ (Int × Mem))) (h : j_X12_lateOrders_55_13 x2 y0 M = some o) (hP : ∀ y, o = .inl y → V X 0 0 Q 13 [some (vr (xG X) 139), some (vi y.1), some (vi y.2), none] [] M) (hE : ∀ z, o = .inr (.inl z) → V X 0 0 Q 64 [none, some (vi z), none, none] [] M) (hR : ∀ q, o = .inr (.inr q) → Q = Qn X (some (vi q.1)) q.2) : V X 0 0 Q 55 [some (vr (xG X) 139), none, some (vi x2), none] [vi y0] M := by
  unfold j_X12_lateOrders_55_13 at h
  refine x_iconst hX dX12_lateOrders_55 ?_
  exact x_weak [true, false, true, false] rfl (tj_X12_lateOrders_56_13 hX hs x2 y0 0 M o h hP hE hR)
set_option maxRecDepth 100000 in
set_option maxHeartbeats 4000000 in
theorem ts_X12_lateOrders_13 {X : Cxt} (hX : Gd X RX12 cX12_lateOrders 4 (some .int) 9) (hs : SOK (xG X))  (M : Mem) (x1 : Int) (x2 : Int) {Q : State → Prop} (o : (Int × Int) ⊕ ((Int) ⊕ (Int × Mem))) (h : s_X12_lateOrders_13 M x1 x2 = some o) (hP : ∀ y, o = .inl y → V X 0 0 Q 13 [some (vr (xG X) 139), some (vi y.1), some (vi y.2), none] [] M) (hE : ∀ z, o = .inr (.inl z) → V X 0 0 Q 64 [none, some (vi z), none, none] [] M) (hR : ∀ q, o = .inr (.inr q) → Q = Qn X (some (vi q.1)) q.2) : V X 0 0 Q 13 [some (vr (xG X) 139), some (vi x1), some (vi x2), none] [] M := by
  unfold s_X12_lateOrders_13 at h
  refine x_iloadn hX dX12_lateOrders_13 rfl ?_
  refine x_aloadn hX dX12_lateOrders_14 rfl ?_
  refine x_getRj (j := 140) hX dX12_lateOrders_15 fl_X12_7 rfl (st139 hs) rfl ?_
  refine x_iconst hX dX12_lateOrders_18 ?_
  refine x_iald hX dX12_lateOrders_19 (st140 hs) inc_4_469 ixc_4 ?_
  refine x_icmp_ge (tgt := 64) hX dX12_lateOrders_20 (by decide) rfl rfl (fun hc => ?_) (fun hc => ?_)
  · replace h := (if_pos hc).symm.trans h
    refine x_aloadn hX dX12_lateOrders_23 rfl ?_
    refine x_iloadn hX dX12_lateOrders_24 rfl ?_
    obtain ⟨r_4, er_4, h⟩ := cl1_of h
    refine x_callVi (t := 11) (As := [vi x2]) (rest := []) hX dX12_lateOrders_25 (c_X12_batchOf (gk hX) (gl hX) hs x2 M _ er_4) kX12_batchOf vX12_batchOf w_1864 (st139 hs) rfl rfl rfl rfl (Nat.le_of_ble_eq_true rfl) z0 ?_
    refine x_istoren (ls' := [some (vr (xG X) 139), some (vi x1), some (vi x2), some (vi r_4)]) hX dX12_lateOrders_28 rfl rfl rfl ?_
    refine x_iloadn hX dX12_lateOrders_29 rfl ?_
    refine x_iloadn hX dX12_lateOrders_30 rfl ?_
    refine x_iconst hX dX12_lateOrders_31 ?_
    refine x_icmp_eq (tgt := 55) hX dX12_lateOrders_32 (by decide) rfl cw_m1 (fun hc => ?_) (fun hc => ?_)
    · replace h := (if_pos hc).symm.trans h
      exact x_weak [true, false, true, false] rfl (tj_X12_lateOrders_55_13 hX hs x2 x1 M o h hP hE hR)
    · replace h := (if_neg hc).symm.trans h
      refine x_aloadn hX dX12_lateOrders_35 rfl ?_
      refine x_iloadn hX dX12_lateOrders_36 rfl ?_
      obtain ⟨r_8, er_8, h⟩ := cl1_of h
      refine x_callVi (t := 11) (As := [vi r_4]) (rest := [vi x1]) hX dX12_lateOrders_37 (c_X12_completes (gk hX) (gl hX) hs r_4 M _ er_8) kX12_completes vX12_completes w_2154 (st139 hs) rfl rfl rfl rfl (Nat.le_of_ble_eq_true rfl) z0 ?_
      refine x_aloadn hX dX12_lateOrders_40 rfl ?_
      refine x_iloadn hX dX12_lateOrders_41 rfl ?_
      refine x_iconst hX dX12_lateOrders_42 ?_
      obtain ⟨r_10, er_10, h⟩ := cl1_of h
      refine x_callVi (t := 11) (As := [vi x2, vi 0]) (rest := [vi r_8, vi x1]) hX dX12_lateOrders_43 (c_X12_ofOrder (gk hX) (gl hX) hs x2 0 M _ er_10) kX12_ofOrder vX12_ofOrder w_1797 (st139 hs) rfl rfl rfl rfl (Nat.le_of_ble_eq_true rfl) z0 ?_
      refine x_icmp_le (tgt := 55) hX dX12_lateOrders_46 (by decide) rfl rfl (fun hc => ?_) (fun hc => ?_)
      · replace h := (if_pos hc).symm.trans h
        refine x_iconst hX dX12_lateOrders_49 ?_
        refine x_iloadn hX dX12_lateOrders_50 rfl ?_
        refine x_ishl hX dX12_lateOrders_51 ?_
        refine x_goto (tgt := 56) hX dX12_lateOrders_52 (by decide) ?_
        exact x_weak [true, false, true, false] rfl (tj_X12_lateOrders_56_13 hX hs x2 x1 (i_shl 1 x2) M o h hP hE hR)
      · replace h := (if_neg hc).symm.trans h
        exact x_weak [true, false, true, false] rfl (tj_X12_lateOrders_55_13 hX hs x2 x1 M o h hP hE hR)
  · replace h := (if_neg hc).symm.trans h
    exact x_weak [false, true, false, false] rfl (hE x1 (Option.some.inj h).symm)
set_option maxRecDepth 100000 in
set_option maxHeartbeats 4000000 in
theorem c_X12_lateOrders {l : Launch} {G : Gx} (hG : GOK G) (hl : l.stackTraces = false) (hs : SOK G)  (M : Mem) (r : Int) (Mr : Mem) (h : f_X12_lateOrders M = some (r, Mr)) : Cn l G mX12_lateOrders 9 [vr G 139] M (some (vi r)) Mr := by
  refine Cn_of2 (ls := [some (vr G 139), none, none, none]) hG hl kX12_lateOrders rfl (Nat.le_of_ble_eq_true rfl) rfl rfl rfl rfl rfl (fun X eG el hX => ?_)
  subst eG; subst el
  unfold f_X12_lateOrders at h
  refine x_aloadn hX dX12_lateOrders_0 rfl ?_
  refine x_iconst hX dX12_lateOrders_1 ?_
  obtain ⟨M_1, eM_1, h⟩ := bnd_of h
  refine x_putI hX dX12_lateOrders_2 fp_X12_70 rfl (st139 hs) (x_meq eM_1 ?_)
  refine x_aloadn hX dX12_lateOrders_5 rfl ?_
  obtain ⟨M_3, er_2, h⟩ := cl1_of h
  refine x_callVv (t := 11) (As := []) (rest := []) hX dX12_lateOrders_6 (c_X12_laysSchedule (gk hX) (gl hX) hs M_1 _ er_2) kX12_laysSchedule vX12_laysSchedule w_2119 (st139 hs) rfl rfl rfl rfl (Nat.le_of_ble_eq_true rfl) z0 ?_
  refine x_iconst hX dX12_lateOrders_9 ?_
  refine x_istoren (ls' := [some (vr (xG X) 139), some (vi 0), none, none]) hX dX12_lateOrders_10 rfl rfl rfl ?_
  refine x_iconst hX dX12_lateOrders_11 ?_
  refine x_istoren (ls' := [some (vr (xG X) 139), some (vi 0), some (vi 0), none]) hX dX12_lateOrders_12 rfl rfl rfl ?_
  refine x_weak (ls' := [some (vr (xG X) 139), some (vi 0), some (vi 0), none]) [true, true, true, false] rfl ?_
  refine lp_use (x := (0, 0)) (P := fun x => V X 0 0 (Qn X (some (vi r)) Mr) 13 [some (vr (xG X) 139), some (vi x.1), some (vi x.2), none] [] M_3) (PE := fun z_12 => V X 0 0 (Qn X (some (vi r)) Mr) 64 [none, some (vi z_12), none, none] [] M_3) (PR := fun q => (Qn X (some (vi r)) Mr) = Qn X (some (vi q.1)) q.2) h (fun x o hh hP hE hR => ts_X12_lateOrders_13 hX hs M_3 x.1 x.2 o hh hP hE hR) (fun z_12 h => ?_) (fun q h => ?_)
  · show V X 0 0 (Qn X (some (vi r)) Mr) 64 [none, some (vi z_12), none, none] [] M_3
    refine x_iloadn hX dX12_lateOrders_64 rfl ?_
    cases h
    exact x_iret hX dX12_lateOrders_65 rfl
  · cases h; rfl
set_option maxRecDepth 100000 in
set_option maxHeartbeats 4000000 in
theorem c_X12_totalTardiness {l : Launch} {G : Gx} (hG : GOK G) (hl : l.stackTraces = false) (hs : SOK G)  (M : Mem) (r : Int) (Mr : Mem) (h : f_X12_totalTardiness M = some (r, Mr)) : Cn l G mX12_totalTardiness 9 [vr G 139] M (some (vi r)) Mr := by
  refine Cn_of2 (ls := [some (vr G 139)]) hG hl kX12_totalTardiness rfl (Nat.le_of_ble_eq_true rfl) rfl rfl rfl rfl rfl (fun X eG el hX => ?_)
  subst eG; subst el
  unfold f_X12_totalTardiness at h
  refine x_aloadn hX dX12_totalTardiness_0 rfl ?_
  refine x_iconst hX dX12_totalTardiness_1 ?_
  obtain ⟨M_1, eM_1, h⟩ := bnd_of h
  refine x_putI hX dX12_totalTardiness_2 fp_X12_70 rfl (st139 hs) (x_meq eM_1 ?_)
  refine x_aloadn hX dX12_totalTardiness_5 rfl ?_
  obtain ⟨M_3, er_2, h⟩ := cl1_of h
  refine x_callVv (t := 11) (As := []) (rest := []) hX dX12_totalTardiness_6 (c_X12_laysSchedule (gk hX) (gl hX) hs M_1 _ er_2) kX12_laysSchedule vX12_laysSchedule w_2119 (st139 hs) rfl rfl rfl rfl (Nat.le_of_ble_eq_true rfl) z0 ?_
  refine x_aloadn hX dX12_totalTardiness_9 rfl ?_
  obtain ⟨r_4, er_4, h⟩ := cl1_of h
  refine x_callVi (t := 11) (As := []) (rest := []) hX dX12_totalTardiness_10 (c_X12_tardiness (gk hX) (gl hX) hs M_3 _ er_4) kX12_tardiness vX12_tardiness w_2170 (st139 hs) rfl rfl rfl rfl (Nat.le_of_ble_eq_true rfl) z0 ?_
  cases h
  exact x_iret hX dX12_totalTardiness_13 rfl
set_option maxRecDepth 100000 in
set_option maxHeartbeats 4000000 in
theorem c_X12_meanTardinessNumerator {l : Launch} {G : Gx} (hG : GOK G) (hl : l.stackTraces = false) (hs : SOK G)  (M : Mem) (r : Int) (Mr : Mem) (h : f_X12_meanTardinessNumerator M = some (r, Mr)) : Cn l G mX12_meanTardinessNumerator 9 [vr G 139] M (some (vi r)) Mr := by
  refine Cn_of2 (ls := [some (vr G 139), none]) hG hl kX12_meanTardinessNumerator rfl (Nat.le_of_ble_eq_true rfl) rfl rfl rfl rfl rfl (fun X eG el hX => ?_)
  subst eG; subst el
  unfold f_X12_meanTardinessNumerator at h
  refine x_aloadn hX dX12_meanTardinessNumerator_0 rfl ?_
  refine x_iconst hX dX12_meanTardinessNumerator_1 ?_
  obtain ⟨M_1, eM_1, h⟩ := bnd_of h
  refine x_putI hX dX12_meanTardinessNumerator_2 fp_X12_70 rfl (st139 hs) (x_meq eM_1 ?_)
  refine x_aloadn hX dX12_meanTardinessNumerator_5 rfl ?_
  obtain ⟨M_3, er_2, h⟩ := cl1_of h
  refine x_callVv (t := 11) (As := []) (rest := []) hX dX12_meanTardinessNumerator_6 (c_X12_laysSchedule (gk hX) (gl hX) hs M_1 _ er_2) kX12_laysSchedule vX12_laysSchedule w_2119 (st139 hs) rfl rfl rfl rfl (Nat.le_of_ble_eq_true rfl) z0 ?_
  refine x_aloadn hX dX12_meanTardinessNumerator_9 rfl ?_
  obtain ⟨r_4, er_4, h⟩ := cl1_of h
  refine x_callVi (t := 11) (As := []) (rest := []) hX dX12_meanTardinessNumerator_10 (c_X12_tardiness (gk hX) (gl hX) hs M_3 _ er_4) kX12_tardiness vX12_tardiness w_2170 (st139 hs) rfl rfl rfl rfl (Nat.le_of_ble_eq_true rfl) z0 ?_
  refine x_istoren (ls' := [some (vr (xG X) 139), some (vi r_4)]) hX dX12_meanTardinessNumerator_13 rfl rfl rfl ?_
  refine x_iloadn hX dX12_meanTardinessNumerator_14 rfl ?_
  refine x_if_ne (tgt := 22) hX dX12_meanTardinessNumerator_15 (by decide) rfl (fun hc => ?_) (fun hc => ?_)
  · replace h := (if_pos hc).symm.trans h
    refine x_iconst hX dX12_meanTardinessNumerator_18 ?_
    refine x_goto (tgt := 32) hX dX12_meanTardinessNumerator_19 (by decide) ?_
    cases h
    exact x_iret hX dX12_meanTardinessNumerator_32 rfl
  · replace h := (if_neg hc).symm.trans h
    refine x_iloadn hX dX12_meanTardinessNumerator_22 rfl ?_
    refine x_iloadn hX dX12_meanTardinessNumerator_23 rfl ?_
    refine x_aloadn hX dX12_meanTardinessNumerator_24 rfl ?_
    obtain ⟨r_6, er_6, h⟩ := cl1_of h
    refine x_callVi (t := 11) (As := []) (rest := [vi r_4, vi r_4]) hX dX12_meanTardinessNumerator_25 (c_X12_batchedMany (gk hX) (gl hX) hs M_3 _ er_6) kX12_batchedMany vX12_batchedMany w_2178 (st139 hs) rfl rfl rfl rfl (Nat.le_of_ble_eq_true rfl) z0 ?_
    obtain ⟨r_8, er_8, h⟩ := cl1_of h
    refine x_callSi (As := [vi r_4, vi r_6]) (rest := [vi r_4]) hX dX12_meanTardinessNumerator_28 (c_X12_common (gk hX) (gl hX) r_4 r_6 M_3 _ er_8) kX12_common sX12_common w_2182 rfl rfl rfl (Nat.le_of_ble_eq_true rfl) z0 ?_
    obtain ⟨b_10, h⟩ := gn_of h
    refine x_idiv hX dX12_meanTardinessNumerator_31 b_10 ?_
    cases h
    exact x_iret hX dX12_meanTardinessNumerator_32 rfl
set_option maxRecDepth 100000 in
set_option maxHeartbeats 4000000 in
theorem c_X12_meanTardinessDenominator {l : Launch} {G : Gx} (hG : GOK G) (hl : l.stackTraces = false) (hs : SOK G)  (M : Mem) (r : Int) (Mr : Mem) (h : f_X12_meanTardinessDenominator M = some (r, Mr)) : Cn l G mX12_meanTardinessDenominator 9 [vr G 139] M (some (vi r)) Mr := by
  refine Cn_of2 (ls := [some (vr G 139), none]) hG hl kX12_meanTardinessDenominator rfl (Nat.le_of_ble_eq_true rfl) rfl rfl rfl rfl rfl (fun X eG el hX => ?_)
  subst eG; subst el
  unfold f_X12_meanTardinessDenominator at h
  refine x_aloadn hX dX12_meanTardinessDenominator_0 rfl ?_
  refine x_iconst hX dX12_meanTardinessDenominator_1 ?_
  obtain ⟨M_1, eM_1, h⟩ := bnd_of h
  refine x_putI hX dX12_meanTardinessDenominator_2 fp_X12_70 rfl (st139 hs) (x_meq eM_1 ?_)
  refine x_aloadn hX dX12_meanTardinessDenominator_5 rfl ?_
  obtain ⟨M_3, er_2, h⟩ := cl1_of h
  refine x_callVv (t := 11) (As := []) (rest := []) hX dX12_meanTardinessDenominator_6 (c_X12_laysSchedule (gk hX) (gl hX) hs M_1 _ er_2) kX12_laysSchedule vX12_laysSchedule w_2119 (st139 hs) rfl rfl rfl rfl (Nat.le_of_ble_eq_true rfl) z0 ?_
  refine x_aloadn hX dX12_meanTardinessDenominator_9 rfl ?_
  obtain ⟨r_4, er_4, h⟩ := cl1_of h
  refine x_callVi (t := 11) (As := []) (rest := []) hX dX12_meanTardinessDenominator_10 (c_X12_tardiness (gk hX) (gl hX) hs M_3 _ er_4) kX12_tardiness vX12_tardiness w_2170 (st139 hs) rfl rfl rfl rfl (Nat.le_of_ble_eq_true rfl) z0 ?_
  refine x_istoren (ls' := [some (vr (xG X) 139), some (vi r_4)]) hX dX12_meanTardinessDenominator_13 rfl rfl rfl ?_
  refine x_iloadn hX dX12_meanTardinessDenominator_14 rfl ?_
  refine x_if_ne (tgt := 22) hX dX12_meanTardinessDenominator_15 (by decide) rfl (fun hc => ?_) (fun hc => ?_)
  · replace h := (if_pos hc).symm.trans h
    refine x_iconst hX dX12_meanTardinessDenominator_18 ?_
    refine x_goto (tgt := 35) hX dX12_meanTardinessDenominator_19 (by decide) ?_
    cases h
    exact x_iret hX dX12_meanTardinessDenominator_35 rfl
  · replace h := (if_neg hc).symm.trans h
    refine x_aloadn hX dX12_meanTardinessDenominator_22 rfl ?_
    obtain ⟨r_6, er_6, h⟩ := cl1_of h
    refine x_callVi (t := 11) (As := []) (rest := []) hX dX12_meanTardinessDenominator_23 (c_X12_batchedMany (gk hX) (gl hX) hs M_3 _ er_6) kX12_batchedMany vX12_batchedMany w_2178 (st139 hs) rfl rfl rfl rfl (Nat.le_of_ble_eq_true rfl) z0 ?_
    refine x_iloadn hX dX12_meanTardinessDenominator_26 rfl ?_
    refine x_aloadn hX dX12_meanTardinessDenominator_27 rfl ?_
    obtain ⟨r_8, er_8, h⟩ := cl1_of h
    refine x_callVi (t := 11) (As := []) (rest := [vi r_4, vi r_6]) hX dX12_meanTardinessDenominator_28 (c_X12_batchedMany (gk hX) (gl hX) hs M_3 _ er_8) kX12_batchedMany vX12_batchedMany w_2178 (st139 hs) rfl rfl rfl rfl (Nat.le_of_ble_eq_true rfl) z0 ?_
    obtain ⟨r_10, er_10, h⟩ := cl1_of h
    refine x_callSi (As := [vi r_4, vi r_8]) (rest := [vi r_6]) hX dX12_meanTardinessDenominator_31 (c_X12_common (gk hX) (gl hX) r_4 r_8 M_3 _ er_10) kX12_common sX12_common w_2182 rfl rfl rfl (Nat.le_of_ble_eq_true rfl) z0 ?_
    obtain ⟨b_12, h⟩ := gn_of h
    refine x_idiv hX dX12_meanTardinessDenominator_34 b_12 ?_
    cases h
    exact x_iret hX dX12_meanTardinessDenominator_35 rfl
set_option maxRecDepth 100000 in
set_option maxHeartbeats 4000000 in
theorem ts_X12_sortBatches_70 {X : Cxt} (hX : Gd X RX12 cX12_sortBatches 3 (some .int) 9) (hs : SOK (xG X))  (x2 : Int) (M : Mem) {Q : State → Prop} (o : (Int × Mem) ⊕ ((Mem) ⊕ (Int × Mem))) (h : s_X12_sortBatches_70 x2 M = some o) (hP : ∀ y, o = .inl y → V X 0 0 Q 70 [some (vr (xG X) 139), none, some (vi y.1)] [] y.2) (hE : ∀ z, o = .inr (.inl z) → V X 0 0 Q 107 [some (vr (xG X) 139), none, none] [] z) (hR : ∀ q, o = .inr (.inr q) → Q = Qn X (some (vi q.1)) q.2) : V X 0 0 Q 70 [some (vr (xG X) 139), none, some (vi x2)] [] M := by
  unfold s_X12_sortBatches_70 at h
  refine x_iloadn hX dX12_sortBatches_70 rfl ?_
  refine x_aloadn hX dX12_sortBatches_71 rfl ?_
  refine x_getRj (j := 140) hX dX12_sortBatches_72 fl_X12_7 rfl (st139 hs) rfl ?_
  refine x_iconst hX dX12_sortBatches_75 ?_
  refine x_iald hX dX12_sortBatches_76 (st140 hs) inc_5_469 ixc_5 ?_
  refine x_icmp_ge (tgt := 107) hX dX12_sortBatches_77 (by decide) rfl rfl (fun hc => ?_) (fun hc => ?_)
  · replace h := (if_pos hc).symm.trans h
    refine x_aloadn hX dX12_sortBatches_80 rfl ?_
    refine x_getRj (j := 154) hX dX12_sortBatches_81 fl_X12_53 rfl (st139 hs) rfl ?_
    refine x_iloadn hX dX12_sortBatches_84 rfl ?_
    refine x_aloadn hX dX12_sortBatches_85 rfl ?_
    refine x_getRj (j := 140) hX dX12_sortBatches_86 fl_X12_7 rfl (st139 hs) rfl ?_
    refine x_sipush hX dX12_sortBatches_89 sp_461 ?_
    refine x_aloadn hX dX12_sortBatches_92 rfl ?_
    refine x_getRj (j := 149) hX dX12_sortBatches_93 fl_X12_38 rfl (st139 hs) rfl ?_
    refine x_iloadn hX dX12_sortBatches_96 rfl ?_
    obtain ⟨b_8, h⟩ := gi_of h
    refine x_iald hX dX12_sortBatches_97 (st149 hs) b_8 rfl ?_
    refine x_iadd hX dX12_sortBatches_98 ?_
    obtain ⟨b_9, h⟩ := gi_of h
    refine x_iald hX dX12_sortBatches_99 (st140 hs) b_9 rfl ?_
    obtain ⟨b_11, h⟩ := gi_of h
    obtain ⟨M_10, eM_10, h⟩ := bnd_of h
    refine x_iast hX dX12_sortBatches_100 (st154 hs) b_11 rfl (x_meq eM_10 ?_)
    obtain ⟨x2_12, ex2_12, h⟩ := bnd_of h
    refine x_iinc (ls' := [some (vr (xG X) 139), none, some (vi x2_12)]) hX dX12_sortBatches_101 rfl rfl ex2_12 rfl ?_
    refine x_goto (tgt := 70) hX dX12_sortBatches_104 (by decide) ?_
    exact x_weak [true, false, true] rfl (hP (x2_12, M_10) (Option.some.inj h).symm)
  · replace h := (if_neg hc).symm.trans h
    exact x_weak [true, false, false] rfl (hE M (Option.some.inj h).symm)
set_option maxRecDepth 100000 in
set_option maxHeartbeats 4000000 in
theorem ts_X12_sortBatches_109 {X : Cxt} (hX : Gd X RX12 cX12_sortBatches 3 (some .int) 9) (hs : SOK (xG X))  (x2 : Int) (M : Mem) {Q : State → Prop} (o : (Int × Mem) ⊕ ((Mem) ⊕ (Int × Mem))) (h : s_X12_sortBatches_109 x2 M = some o) (hP : ∀ y, o = .inl y → V X 0 0 Q 109 [some (vr (xG X) 139), none, some (vi y.1)] [] y.2) (hE : ∀ z, o = .inr (.inl z) → V X 0 0 Q 141 [some (vr (xG X) 139), none, none] [] z) (hR : ∀ q, o = .inr (.inr q) → Q = Qn X (some (vi q.1)) q.2) : V X 0 0 Q 109 [some (vr (xG X) 139), none, some (vi x2)] [] M := by
  unfold s_X12_sortBatches_109 at h
  refine x_iloadn hX dX12_sortBatches_109 rfl ?_
  refine x_aloadn hX dX12_sortBatches_110 rfl ?_
  refine x_getRj (j := 140) hX dX12_sortBatches_111 fl_X12_7 rfl (st139 hs) rfl ?_
  refine x_iconst hX dX12_sortBatches_114 ?_
  refine x_iald hX dX12_sortBatches_115 (st140 hs) inc_5_469 ixc_5 ?_
  refine x_icmp_ge (tgt := 141) hX dX12_sortBatches_116 (by decide) rfl rfl (fun hc => ?_) (fun hc => ?_)
  · replace h := (if_pos hc).symm.trans h
    refine x_aloadn hX dX12_sortBatches_119 rfl ?_
    refine x_getRj (j := 140) hX dX12_sortBatches_120 fl_X12_7 rfl (st139 hs) rfl ?_
    refine x_sipush hX dX12_sortBatches_123 sp_461 ?_
    refine x_iloadn hX dX12_sortBatches_126 rfl ?_
    refine x_iadd hX dX12_sortBatches_127 ?_
    refine x_aloadn hX dX12_sortBatches_128 rfl ?_
    refine x_getRj (j := 154) hX dX12_sortBatches_129 fl_X12_53 rfl (st139 hs) rfl ?_
    refine x_iloadn hX dX12_sortBatches_132 rfl ?_
    obtain ⟨b_14, h⟩ := gi_of h
    refine x_iald hX dX12_sortBatches_133 (st154 hs) b_14 rfl ?_
    obtain ⟨b_16, h⟩ := gi_of h
    obtain ⟨M_15, eM_15, h⟩ := bnd_of h
    refine x_iast hX dX12_sortBatches_134 (st140 hs) b_16 rfl (x_meq eM_15 ?_)
    obtain ⟨x2_17, ex2_17, h⟩ := bnd_of h
    refine x_iinc (ls' := [some (vr (xG X) 139), none, some (vi x2_17)]) hX dX12_sortBatches_135 rfl rfl ex2_17 rfl ?_
    refine x_goto (tgt := 109) hX dX12_sortBatches_138 (by decide) ?_
    exact x_weak [true, false, true] rfl (hP (x2_17, M_15) (Option.some.inj h).symm)
  · replace h := (if_neg hc).symm.trans h
    exact x_weak [true, false, false] rfl (hE M (Option.some.inj h).symm)
set_option maxRecDepth 100000 in
set_option maxHeartbeats 4000000 in
theorem tj_X12_sortBatches_68 {X : Cxt} (hX : Gd X RX12 cX12_sortBatches 3 (some .int) 9) (hs : SOK (xG X))   (M : Mem) (r : Int) (Mr : Mem) (h : j_X12_sortBatches_68 M = some (r, Mr)) : V X 0 0 (Qn X (some (vi r)) Mr) 68 [some (vr (xG X) 139), none, none] [] M := by
  unfold j_X12_sortBatches_68 at h
  refine x_iconst hX dX12_sortBatches_68 ?_
  refine x_istoren (ls' := [some (vr (xG X) 139), none, some (vi 0)]) hX dX12_sortBatches_69 rfl rfl rfl ?_
  refine x_weak (ls' := [some (vr (xG X) 139), none, some (vi 0)]) [true, false, true] rfl ?_
  refine lp_use (x := (0, M)) (P := fun x => V X 0 0 (Qn X (some (vi r)) Mr) 70 [some (vr (xG X) 139), none, some (vi x.1)] [] x.2) (PE := fun z_13 => V X 0 0 (Qn X (some (vi r)) Mr) 107 [some (vr (xG X) 139), none, none] [] z_13) (PR := fun q => (Qn X (some (vi r)) Mr) = Qn X (some (vi q.1)) q.2) h (fun x o hh hP hE hR => ts_X12_sortBatches_70 hX hs x.1 x.2 o hh hP hE hR) (fun z_13 h => ?_) (fun q h => ?_)
  · show V X 0 0 (Qn X (some (vi r)) Mr) 107 [some (vr (xG X) 139), none, none] [] z_13
    refine x_iconst hX dX12_sortBatches_107 ?_
    refine x_istoren (ls' := [some (vr (xG X) 139), none, some (vi 0)]) hX dX12_sortBatches_108 rfl rfl rfl ?_
    refine x_weak (ls' := [some (vr (xG X) 139), none, some (vi 0)]) [true, false, true] rfl ?_
    refine lp_use (x := (0, z_13)) (P := fun x => V X 0 0 (Qn X (some (vi r)) Mr) 109 [some (vr (xG X) 139), none, some (vi x.1)] [] x.2) (PE := fun z_18 => V X 0 0 (Qn X (some (vi r)) Mr) 141 [some (vr (xG X) 139), none, none] [] z_18) (PR := fun q => (Qn X (some (vi r)) Mr) = Qn X (some (vi q.1)) q.2) h (fun x o hh hP hE hR => ts_X12_sortBatches_109 hX hs x.1 x.2 o hh hP hE hR) (fun z_18 h => ?_) (fun q h => ?_)
    · show V X 0 0 (Qn X (some (vi r)) Mr) 141 [some (vr (xG X) 139), none, none] [] z_18
      refine x_aloadn hX dX12_sortBatches_141 rfl ?_
      obtain ⟨M_20, er_19, h⟩ := cl1_of h
      refine x_callVv (t := 11) (As := []) (rest := []) hX dX12_sortBatches_142 (c_X12_laysSchedule (gk hX) (gl hX) hs z_18 _ er_19) kX12_laysSchedule vX12_laysSchedule w_2119 (st139 hs) rfl rfl rfl rfl (Nat.le_of_ble_eq_true rfl) z0 ?_
      refine x_aloadn hX dX12_sortBatches_145 rfl ?_
      obtain ⟨r_21, er_21, h⟩ := cl1_of h
      refine x_callVi (t := 11) (As := []) (rest := []) hX dX12_sortBatches_146 (c_X12_tardiness (gk hX) (gl hX) hs M_20 _ er_21) kX12_tardiness vX12_tardiness w_2170 (st139 hs) rfl rfl rfl rfl (Nat.le_of_ble_eq_true rfl) z0 ?_
      cases h
      exact x_iret hX dX12_sortBatches_149 rfl
    · cases h; rfl
  · cases h; rfl
set_option maxRecDepth 100000 in
set_option maxHeartbeats 4000000 in
theorem tj_X12_sortBatches_35 {X : Cxt} (hX : Gd X RX12 cX12_sortBatches 3 (some .int) 9) (hs : SOK (xG X))   (x1 : Int) (y1 : Int) (M : Mem) (r : Int) (Mr : Mem) (h : j_X12_sortBatches_35 x1 y1 M = some (r, Mr)) : V X 0 0 (Qn X (some (vi r)) Mr) 35 [some (vr (xG X) 139), some (vi x1), none] [vi y1, vr (xG X) 139] M := by
  unfold j_X12_sortBatches_35 at h
  obtain ⟨M_3, eM_3, h⟩ := bnd_of h
  refine x_putI hX dX12_sortBatches_35 fp_X12_70 rfl (st139 hs) (x_meq eM_3 ?_)
  refine x_aloadn hX dX12_sortBatches_38 rfl ?_
  refine x_getI hX dX12_sortBatches_39 fl_X12_70 rfl (st139 hs) ?_
  refine x_if_le (tgt := 47) hX dX12_sortBatches_42 (by decide) rfl (fun hc => ?_) (fun hc => ?_)
  · replace h := (if_pos hc).symm.trans h
    refine x_iconst hX dX12_sortBatches_45 ?_
    cases h
    exact x_iret hX dX12_sortBatches_46 rfl
  · replace h := (if_neg hc).symm.trans h
    refine x_aloadn hX dX12_sortBatches_47 rfl ?_
    obtain ⟨M_5, er_4, h⟩ := cl1_of h
    refine x_callVv (t := 11) (As := []) (rest := []) hX dX12_sortBatches_48 (c_X12_laysWork (gk hX) (gl hX) hs M_3 _ er_4) kX12_laysWork vX12_laysWork w_2123 (st139 hs) rfl rfl rfl rfl (Nat.le_of_ble_eq_true rfl) z0 ?_
    refine x_iloadn hX dX12_sortBatches_51 rfl ?_
    refine x_iconst hX dX12_sortBatches_52 ?_
    refine x_icmp_ge (tgt := 64) hX dX12_sortBatches_53 (by decide) rfl cw_2 (fun hc => ?_) (fun hc => ?_)
    · replace h := (if_pos hc).symm.trans h
      refine x_aloadn hX dX12_sortBatches_56 rfl ?_
      refine x_iloadn hX dX12_sortBatches_57 rfl ?_
      obtain ⟨M_7, er_6, h⟩ := cl1_of h
      refine x_callVv (t := 11) (As := [vi x1]) (rest := []) hX dX12_sortBatches_58 (c_X12_sortsBy (gk hX) (gl hX) hs x1 M_5 _ er_6) kX12_sortsBy vX12_sortsBy w_2193 (st139 hs) rfl rfl rfl rfl (Nat.le_of_ble_eq_true rfl) z0 ?_
      refine x_goto (tgt := 68) hX dX12_sortBatches_61 (by decide) ?_
      exact x_weak [true, false, false] rfl (tj_X12_sortBatches_68 hX hs M_7 r Mr h)
    · replace h := (if_neg hc).symm.trans h
      refine x_aloadn hX dX12_sortBatches_64 rfl ?_
      obtain ⟨M_24, er_23, h⟩ := cl1_of h
      refine x_callVv (t := 11) (As := []) (rest := []) hX dX12_sortBatches_65 (c_X12_seeksSequence (gk hX) (gl hX) hs M_5 _ er_23) kX12_seeksSequence vX12_seeksSequence w_2201 (st139 hs) rfl rfl rfl rfl (Nat.le_of_ble_eq_true rfl) z0 ?_
      exact x_weak [true, false, false] rfl (tj_X12_sortBatches_68 hX hs M_24 r Mr h)
set_option maxRecDepth 100000 in
set_option maxHeartbeats 4000000 in
theorem tj_X12_sortBatches_34 {X : Cxt} (hX : Gd X RX12 cX12_sortBatches 3 (some .int) 9) (hs : SOK (xG X))   (x1 : Int) (M : Mem) (r : Int) (Mr : Mem) (h : j_X12_sortBatches_34 x1 M = some (r, Mr)) : V X 0 0 (Qn X (some (vi r)) Mr) 34 [some (vr (xG X) 139), some (vi x1), none] [vr (xG X) 139] M := by
  unfold j_X12_sortBatches_34 at h
  refine x_iconst hX dX12_sortBatches_34 ?_
  exact x_weak [true, true, false] rfl (tj_X12_sortBatches_35 hX hs x1 0 M r Mr h)
set_option maxRecDepth 100000 in
set_option maxHeartbeats 4000000 in
theorem c_X12_sortBatches {l : Launch} {G : Gx} (hG : GOK G) (hl : l.stackTraces = false) (hs : SOK G)  (x1 : Int) (M : Mem) (r : Int) (Mr : Mem) (h : f_X12_sortBatches x1 M = some (r, Mr)) : Cn l G mX12_sortBatches 9 [vr G 139, vi x1] M (some (vi r)) Mr := by
  refine Cn_of2 (ls := [some (vr G 139), some (vi x1), none]) hG hl kX12_sortBatches rfl (Nat.le_of_ble_eq_true rfl) rfl rfl rfl rfl rfl (fun X eG el hX => ?_)
  subst eG; subst el
  unfold f_X12_sortBatches at h
  refine x_aloadn hX dX12_sortBatches_0 rfl ?_
  refine x_iloadn hX dX12_sortBatches_1 rfl ?_
  refine x_iconst hX dX12_sortBatches_2 ?_
  refine x_iconst hX dX12_sortBatches_3 ?_
  obtain ⟨r_1, er_1, h⟩ := cl1_of h
  refine x_callSi (As := [vi x1, vi 0, vi 2]) (rest := [vr (xG X) 139]) hX dX12_sortBatches_4 (c_X12_in (gk hX) (gl hX) x1 0 2 M _ er_1) kX12_in sX12_in w_1735 rfl rfl rfl (Nat.le_of_ble_eq_true rfl) z0 ?_
  refine x_if_ne (tgt := 14) hX dX12_sortBatches_7 (by decide) rfl (fun hc => ?_) (fun hc => ?_)
  · replace h := (if_pos hc).symm.trans h
    refine x_iconst hX dX12_sortBatches_10 ?_
    refine x_goto (tgt := 35) hX dX12_sortBatches_11 (by decide) ?_
    exact x_weak [true, true, false] rfl (tj_X12_sortBatches_35 hX hs x1 1 M r Mr h)
  · replace h := (if_neg hc).symm.trans h
    refine x_iloadn hX dX12_sortBatches_14 rfl ?_
    refine x_iconst hX dX12_sortBatches_15 ?_
    refine x_icmp_ne (tgt := 34) hX dX12_sortBatches_16 (by decide) rfl cw_2 (fun hc => ?_) (fun hc => ?_)
    · replace h := (if_pos hc).symm.trans h
      refine x_aloadn hX dX12_sortBatches_19 rfl ?_
      refine x_getRj (j := 140) hX dX12_sortBatches_20 fl_X12_7 rfl (st139 hs) rfl ?_
      refine x_iconst hX dX12_sortBatches_23 ?_
      refine x_iald hX dX12_sortBatches_24 (st140 hs) inc_5_469 ixc_5 ?_
      refine x_bipush hX dX12_sortBatches_25 bp_6 ?_
      refine x_icmp_le (tgt := 34) hX dX12_sortBatches_27 (by decide) rfl cw_6 (fun hc => ?_) (fun hc => ?_)
      · replace h := (if_pos hc).symm.trans h
        refine x_iconst hX dX12_sortBatches_30 ?_
        refine x_goto (tgt := 35) hX dX12_sortBatches_31 (by decide) ?_
        exact x_weak [true, true, false] rfl (tj_X12_sortBatches_35 hX hs x1 2 M r Mr h)
      · replace h := (if_neg hc).symm.trans h
        exact x_weak [true, true, false] rfl (tj_X12_sortBatches_34 hX hs x1 M r Mr h)
    · replace h := (if_neg hc).symm.trans h
      exact x_weak [true, true, false] rfl (tj_X12_sortBatches_34 hX hs x1 M r Mr h)
set_option maxRecDepth 100000 in
set_option maxHeartbeats 4000000 in
theorem c_X12_workTime {l : Launch} {G : Gx} (hG : GOK G) (hl : l.stackTraces = false) (hs : SOK G)  (x1 : Int) (x2 : Int) (M : Mem) (r : Int) (Mr : Mem) (h : f_X12_workTime x1 x2 M = some (r, Mr)) : Cn l G mX12_workTime 10 [vr G 139, vi x1, vi x2] M (some (vi r)) Mr := by
  refine Cn_of2 (ls := [some (vr G 139), some (vi x1), some (vi x2)]) hG hl kX12_workTime rfl (Nat.le_of_ble_eq_true rfl) rfl rfl rfl rfl rfl (fun X eG el hX => ?_)
  subst eG; subst el
  unfold f_X12_workTime at h
  refine x_aloadn hX dX12_workTime_0 rfl ?_
  refine x_iloadn hX dX12_workTime_1 rfl ?_
  refine x_iloadn hX dX12_workTime_2 rfl ?_
  obtain ⟨r_1, M_2, er_1, h⟩ := cl2_of h
  refine x_callVi (t := 11) (As := [vi x1, vi x2]) (rest := []) hX dX12_workTime_3 (c_X12_isPartLaid (gk hX) (gl hX) hs x1 x2 M _ _ er_1) kX12_isPartLaid vX12_isPartLaid w_2115 (st139 hs) rfl rfl rfl rfl (Nat.le_of_ble_eq_true rfl) z0 ?_
  refine x_if_eq (tgt := 22) hX dX12_workTime_6 (by decide) rfl (fun hc => ?_) (fun hc => ?_)
  · replace h := (if_pos hc).symm.trans h
    refine x_iconst hX dX12_workTime_22 ?_
    cases h
    exact x_iret hX dX12_workTime_23 rfl
  · replace h := (if_neg hc).symm.trans h
    refine x_aloadn hX dX12_workTime_9 rfl ?_
    refine x_getRj (j := 148) hX dX12_workTime_10 fl_X12_35 rfl (st139 hs) rfl ?_
    refine x_iconst hX dX12_workTime_13 ?_
    refine x_iloadn hX dX12_workTime_14 rfl ?_
    refine x_imul hX dX12_workTime_15 ?_
    refine x_iloadn hX dX12_workTime_16 rfl ?_
    refine x_iadd hX dX12_workTime_17 ?_
    obtain ⟨b_3, h⟩ := gi_of h
    refine x_iald hX dX12_workTime_18 (st148 hs) b_3 rfl ?_
    refine x_goto (tgt := 23) hX dX12_workTime_19 (by decide) ?_
    cases h
    exact x_iret hX dX12_workTime_23 rfl
set_option maxRecDepth 100000 in
set_option maxHeartbeats 4000000 in
theorem c_X12_startTime {l : Launch} {G : Gx} (hG : GOK G) (hl : l.stackTraces = false) (hs : SOK G)  (x1 : Int) (x2 : Int) (M : Mem) (r : Int) (Mr : Mem) (h : f_X12_startTime x1 x2 M = some (r, Mr)) : Cn l G mX12_startTime 10 [vr G 139, vi x1, vi x2] M (some (vi r)) Mr := by
  refine Cn_of2 (ls := [some (vr G 139), some (vi x1), some (vi x2)]) hG hl kX12_startTime rfl (Nat.le_of_ble_eq_true rfl) rfl rfl rfl rfl rfl (fun X eG el hX => ?_)
  subst eG; subst el
  unfold f_X12_startTime at h
  refine x_aloadn hX dX12_startTime_0 rfl ?_
  refine x_iloadn hX dX12_startTime_1 rfl ?_
  refine x_iloadn hX dX12_startTime_2 rfl ?_
  obtain ⟨r_1, M_2, er_1, h⟩ := cl2_of h
  refine x_callVi (t := 11) (As := [vi x1, vi x2]) (rest := []) hX dX12_startTime_3 (c_X12_isPartLaid (gk hX) (gl hX) hs x1 x2 M _ _ er_1) kX12_isPartLaid vX12_isPartLaid w_2115 (st139 hs) rfl rfl rfl rfl (Nat.le_of_ble_eq_true rfl) z0 ?_
  refine x_if_eq (tgt := 22) hX dX12_startTime_6 (by decide) rfl (fun hc => ?_) (fun hc => ?_)
  · replace h := (if_pos hc).symm.trans h
    refine x_iconst hX dX12_startTime_22 ?_
    cases h
    exact x_iret hX dX12_startTime_23 rfl
  · replace h := (if_neg hc).symm.trans h
    refine x_aloadn hX dX12_startTime_9 rfl ?_
    refine x_getRj (j := 150) hX dX12_startTime_10 fl_X12_41 rfl (st139 hs) rfl ?_
    refine x_iconst hX dX12_startTime_13 ?_
    refine x_iloadn hX dX12_startTime_14 rfl ?_
    refine x_imul hX dX12_startTime_15 ?_
    refine x_iloadn hX dX12_startTime_16 rfl ?_
    refine x_iadd hX dX12_startTime_17 ?_
    obtain ⟨b_3, h⟩ := gi_of h
    refine x_iald hX dX12_startTime_18 (st150 hs) b_3 rfl ?_
    refine x_goto (tgt := 23) hX dX12_startTime_19 (by decide) ?_
    cases h
    exact x_iret hX dX12_startTime_23 rfl
set_option maxRecDepth 100000 in
set_option maxHeartbeats 4000000 in
theorem c_X12_leaveTime {l : Launch} {G : Gx} (hG : GOK G) (hl : l.stackTraces = false) (hs : SOK G)  (x1 : Int) (x2 : Int) (M : Mem) (r : Int) (Mr : Mem) (h : f_X12_leaveTime x1 x2 M = some (r, Mr)) : Cn l G mX12_leaveTime 10 [vr G 139, vi x1, vi x2] M (some (vi r)) Mr := by
  refine Cn_of2 (ls := [some (vr G 139), some (vi x1), some (vi x2)]) hG hl kX12_leaveTime rfl (Nat.le_of_ble_eq_true rfl) rfl rfl rfl rfl rfl (fun X eG el hX => ?_)
  subst eG; subst el
  unfold f_X12_leaveTime at h
  refine x_aloadn hX dX12_leaveTime_0 rfl ?_
  refine x_iloadn hX dX12_leaveTime_1 rfl ?_
  refine x_iloadn hX dX12_leaveTime_2 rfl ?_
  obtain ⟨r_1, M_2, er_1, h⟩ := cl2_of h
  refine x_callVi (t := 11) (As := [vi x1, vi x2]) (rest := []) hX dX12_leaveTime_3 (c_X12_isPartLaid (gk hX) (gl hX) hs x1 x2 M _ _ er_1) kX12_isPartLaid vX12_isPartLaid w_2115 (st139 hs) rfl rfl rfl rfl (Nat.le_of_ble_eq_true rfl) z0 ?_
  refine x_if_eq (tgt := 22) hX dX12_leaveTime_6 (by decide) rfl (fun hc => ?_) (fun hc => ?_)
  · replace h := (if_pos hc).symm.trans h
    refine x_iconst hX dX12_leaveTime_22 ?_
    cases h
    exact x_iret hX dX12_leaveTime_23 rfl
  · replace h := (if_neg hc).symm.trans h
    refine x_aloadn hX dX12_leaveTime_9 rfl ?_
    refine x_getRj (j := 151) hX dX12_leaveTime_10 fl_X12_44 rfl (st139 hs) rfl ?_
    refine x_iconst hX dX12_leaveTime_13 ?_
    refine x_iloadn hX dX12_leaveTime_14 rfl ?_
    refine x_imul hX dX12_leaveTime_15 ?_
    refine x_iloadn hX dX12_leaveTime_16 rfl ?_
    refine x_iadd hX dX12_leaveTime_17 ?_
    obtain ⟨b_3, h⟩ := gi_of h
    refine x_iald hX dX12_leaveTime_18 (st151 hs) b_3 rfl ?_
    refine x_goto (tgt := 23) hX dX12_leaveTime_19 (by decide) ?_
    cases h
    exact x_iret hX dX12_leaveTime_23 rfl
