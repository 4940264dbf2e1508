-- written by wip/gen/emit.py: X11_lateOrders, X11_tardinessNow, X4_makeAll, X10_readHall, X10_readOrder, X10_readPolicy, X11_improve, X11_totalTardiness, X11_meanTardinessNumerator, X11_meanTardinessDenominator, X10_readStatement, X10_readInto, X11_load
set_option maxRecDepth 100000 in
set_option maxHeartbeats 4000000 in
theorem ts_X11_lateOrders_15 {X : Cxt} (hX : Gd X RX11 cX11_lateOrders 3 (some .int) 6) (hs : SOK (xG X))  (M : Mem) (x1 : Int) (x2 : Int) {Q : State → Prop} (o : (Int × Int) ⊕ ((Int) ⊕ (Int × Mem))) (h : s_X11_lateOrders_15 M x1 x2 = some o) (hP : ∀ y, o = .inl y → V X 0 0 Q 15 [some (vr (xG X) 0), some (vi y.1), some (vi y.2)] [] M) (hE : ∀ z, o = .inr (.inl z) → V X 0 0 Q 75 [none, some (vi z), none] [] M) (hR : ∀ q, o = .inr (.inr q) → Q = Qn X (some (vi q.1)) q.2) : V X 0 0 Q 15 [some (vr (xG X) 0), some (vi x1), some (vi x2)] [] M := by
  unfold s_X11_lateOrders_15 at h
  refine x_iloadn hX dX11_lateOrders_15 rfl ?_
  refine x_aloadn hX dX11_lateOrders_16 rfl ?_
  refine x_getRj (j := 1) hX dX11_lateOrders_17 fl_X11_10 rfl (st0 hs) rfl ?_
  refine x_getRj (j := 17) hX dX11_lateOrders_20 fl_X11_159 rfl (st1 hs) rfl ?_
  refine x_getI hX dX11_lateOrders_23 fl_X11_168 rfl (st17 hs) ?_
  refine x_icmp_ge (tgt := 75) hX dX11_lateOrders_26 (by decide) rfl rfl (fun hc => ?_) (fun hc => ?_)
  · replace h := (if_pos hc).symm.trans h
    refine x_iloadn hX dX11_lateOrders_29 rfl ?_
    refine x_aloadn hX dX11_lateOrders_30 rfl ?_
    refine x_getRj (j := 1) hX dX11_lateOrders_31 fl_X11_10 rfl (st0 hs) rfl ?_
    refine x_getRj (j := 10) hX dX11_lateOrders_34 fl_X11_118 rfl (st1 hs) rfl ?_
    refine x_aloadn hX dX11_lateOrders_37 rfl ?_
    refine x_getRj (j := 1) hX dX11_lateOrders_38 fl_X11_10 rfl (st0 hs) rfl ?_
    refine x_getRj (j := 17) hX dX11_lateOrders_41 fl_X11_159 rfl (st1 hs) rfl ?_
    refine x_getRj (j := 18) hX dX11_lateOrders_44 fl_X11_195 rfl (st17 hs) rfl ?_
    refine x_iloadn hX dX11_lateOrders_47 rfl ?_
    obtain ⟨b_3, h⟩ := gi_of h
    refine x_iald hX dX11_lateOrders_48 (st18 hs) b_3 rfl ?_
    refine x_aloadn hX dX11_lateOrders_49 rfl ?_
    refine x_getRj (j := 49) hX dX11_lateOrders_50 fl_X11_40 rfl (st0 hs) rfl ?_
    refine x_aloadn hX dX11_lateOrders_53 rfl ?_
    refine x_getRj (j := 1) hX dX11_lateOrders_54 fl_X11_10 rfl (st0 hs) rfl ?_
    refine x_getRj (j := 2) hX dX11_lateOrders_57 fl_X11_79 rfl (st1 hs) rfl ?_
    refine x_iloadn hX dX11_lateOrders_60 rfl ?_
    obtain ⟨r_4, er_4, h⟩ := cl1_of h
    refine x_callVi (t := 7) (As := [vr (xG X) 2, vi x2]) (rest := [vi (M 18 (ix x2)), vr (xG X) 10, vi x1]) hX dX11_lateOrders_61 (c_X7_completion (gk hX) (gl hX) (st49 hs) (st2 hs) x2 M _ er_4) kX7_completion vX7_completion w_694 (st49 hs) rfl rfl rfl rfl (Nat.le_of_ble_eq_true rfl) z0 ?_
    obtain ⟨r_6, er_6, h⟩ := cl1_of h
    refine x_callVi (t := 5) (As := [vi (M 18 (ix x2)), vi r_4]) (rest := [vi x1]) hX dX11_lateOrders_64 (c_X5_dueBefore (gk hX) (gl hX) (st10 hs) (M 18 (ix x2)) r_4 M _ er_6) kX5_dueBefore vX5_dueBefore w_702 (st10 hs) rfl rfl rfl rfl (Nat.le_of_ble_eq_true rfl) z0 ?_
    refine x_ior hX dX11_lateOrders_67 ?_
    obtain ⟨x1_8, ex1_8, h⟩ := bnd_of h
    refine x_istoren (ls' := [some (vr (xG X) 0), some (vi x1_8), some (vi x2)]) hX dX11_lateOrders_68 rfl ex1_8 rfl ?_
    obtain ⟨x2_9, ex2_9, h⟩ := bnd_of h
    refine x_iinc (ls' := [some (vr (xG X) 0), some (vi x1_8), some (vi x2_9)]) hX dX11_lateOrders_69 rfl rfl ex2_9 rfl ?_
    refine x_goto (tgt := 15) hX dX11_lateOrders_72 (by decide) ?_
    exact x_weak [true, true, true] rfl (hP (x1_8, x2_9) (Option.some.inj h).symm)
  · replace h := (if_neg hc).symm.trans h
    exact x_weak [false, true, false] rfl (hE x1 (Option.some.inj h).symm)
set_option maxRecDepth 100000 in
set_option maxHeartbeats 4000000 in
theorem c_X11_lateOrders {l : Launch} {G : Gx} (hG : GOK G) (hl : l.stackTraces = false) (hs : SOK G)  (M : Mem) (r : Int) (Mr : Mem) (h : f_X11_lateOrders M = some (r, Mr)) : Cn l G mX11_lateOrders 6 [vr G 0] M (some (vi r)) Mr := by
  refine Cn_of2 (ls := [some (vr G 0), none, none]) hG hl kX11_lateOrders rfl (Nat.le_of_ble_eq_true rfl) rfl rfl rfl rfl rfl (fun X eG el hX => ?_)
  subst eG; subst el
  unfold f_X11_lateOrders at h
  refine x_aloadn hX dX11_lateOrders_0 rfl ?_
  refine x_getRj (j := 49) hX dX11_lateOrders_1 fl_X11_40 rfl (st0 hs) rfl ?_
  refine x_aloadn hX dX11_lateOrders_4 rfl ?_
  refine x_getRj (j := 1) hX dX11_lateOrders_5 fl_X11_10 rfl (st0 hs) rfl ?_
  obtain ⟨M_2, er_1, h⟩ := cl1_of h
  refine x_callVv (t := 7) (As := [vr (xG X) 1]) (rest := []) hX dX11_lateOrders_8 (c_X7_runAll (gk hX) (gl hX) (st49 hs) (st1 hs) M _ er_1) kX7_runAll vX7_runAll w_671 (st49 hs) rfl rfl rfl rfl (Nat.le_of_ble_eq_true rfl) z0 ?_
  refine x_iconst hX dX11_lateOrders_11 ?_
  refine x_istoren (ls' := [some (vr (xG X) 0), some (vi 0), none]) hX dX11_lateOrders_12 rfl rfl rfl ?_
  refine x_iconst hX dX11_lateOrders_13 ?_
  refine x_istoren (ls' := [some (vr (xG X) 0), some (vi 0), some (vi 0)]) hX dX11_lateOrders_14 rfl rfl rfl ?_
  refine x_weak (ls' := [some (vr (xG X) 0), some (vi 0), some (vi 0)]) [true, true, true] rfl ?_
  refine lp_use (x := (0, 0)) (P := fun x => V X 0 0 (Qn X (some (vi r)) Mr) 15 [some (vr (xG X) 0), some (vi x.1), some (vi x.2)] [] M_2) (PE := fun z_10 => V X 0 0 (Qn X (some (vi r)) Mr) 75 [none, some (vi z_10), none] [] M_2) (PR := fun q => (Qn X (some (vi r)) Mr) = Qn X (some (vi q.1)) q.2) h (fun x o hh hP hE hR => ts_X11_lateOrders_15 hX hs M_2 x.1 x.2 o hh hP hE hR) (fun z_10 h => ?_) (fun q h => ?_)
  · show V X 0 0 (Qn X (some (vi r)) Mr) 75 [none, some (vi z_10), none] [] M_2
    refine x_iloadn hX dX11_lateOrders_75 rfl ?_
    cases h
    exact x_iret hX dX11_lateOrders_76 rfl
  · cases h; rfl
set_option maxRecDepth 100000 in
set_option maxHeartbeats 4000000 in
theorem ts_X11_tardinessNow_15 {X : Cxt} (hX : Gd X RX11 cX11_tardinessNow 3 (some .int) 6) (hs : SOK (xG X))  (M : Mem) (x1 : Int) (x2 : Int) {Q : State → Prop} (o : (Int × Int) ⊕ ((Int) ⊕ (Int × Mem))) (h : s_X11_tardinessNow_15 M x1 x2 = some o) (hP : ∀ y, o = .inl y → V X 0 0 Q 15 [some (vr (xG X) 0), some (vi y.1), some (vi y.2)] [] M) (hE : ∀ z, o = .inr (.inl z) → V X 0 0 Q 61 [none, some (vi z), none] [] M) (hR : ∀ q, o = .inr (.inr q) → Q = Qn X (some (vi q.1)) q.2) : V X 0 0 Q 15 [some (vr (xG X) 0), some (vi x1), some (vi x2)] [] M := by
  unfold s_X11_tardinessNow_15 at h
  refine x_iloadn hX dX11_tardinessNow_15 rfl ?_
  refine x_aloadn hX dX11_tardinessNow_16 rfl ?_
  refine x_getRj (j := 1) hX dX11_tardinessNow_17 fl_X11_10 rfl (st0 hs) rfl ?_
  refine x_getRj (j := 17) hX dX11_tardinessNow_20 fl_X11_159 rfl (st1 hs) rfl ?_
  refine x_getI hX dX11_tardinessNow_23 fl_X11_168 rfl (st17 hs) ?_
  refine x_icmp_ge (tgt := 61) hX dX11_tardinessNow_26 (by decide) rfl rfl (fun hc => ?_) (fun hc => ?_)
  · replace h := (if_pos hc).symm.trans h
    refine x_iloadn hX dX11_tardinessNow_29 rfl ?_
    refine x_aloadn hX dX11_tardinessNow_30 rfl ?_
    refine x_getRj (j := 1) hX dX11_tardinessNow_31 fl_X11_10 rfl (st0 hs) rfl ?_
    refine x_iloadn hX dX11_tardinessNow_34 rfl ?_
    refine x_aloadn hX dX11_tardinessNow_35 rfl ?_
    refine x_getRj (j := 49) hX dX11_tardinessNow_36 fl_X11_40 rfl (st0 hs) rfl ?_
    refine x_aloadn hX dX11_tardinessNow_39 rfl ?_
    refine x_getRj (j := 1) hX dX11_tardinessNow_40 fl_X11_10 rfl (st0 hs) rfl ?_
    refine x_getRj (j := 2) hX dX11_tardinessNow_43 fl_X11_79 rfl (st1 hs) rfl ?_
    refine x_iloadn hX dX11_tardinessNow_46 rfl ?_
    obtain ⟨r_3, er_3, h⟩ := cl1_of h
    refine x_callVi (t := 7) (As := [vr (xG X) 2, vi x2]) (rest := [vi x2, vr (xG X) 1, vi x1]) hX dX11_tardinessNow_47 (c_X7_completion (gk hX) (gl hX) (st49 hs) (st2 hs) x2 M _ er_3) kX7_completion vX7_completion w_694 (st49 hs) rfl rfl rfl rfl (Nat.le_of_ble_eq_true rfl) z0 ?_
    obtain ⟨r_5, er_5, h⟩ := cl1_of h
    refine x_callVi (t := 1) (As := [vi x2, vi r_3]) (rest := [vi x1]) hX dX11_tardinessNow_50 (c_X1_tardinessOf (gk hX) (gl hX) (st1 hs) x2 r_3 M _ er_5) kX1_tardinessOf vX1_tardinessOf w_714 (st1 hs) rfl rfl rfl rfl (Nat.le_of_ble_eq_true rfl) z0 ?_
    refine x_iadd hX dX11_tardinessNow_53 ?_
    obtain ⟨x1_7, ex1_7, h⟩ := bnd_of h
    refine x_istoren (ls' := [some (vr (xG X) 0), some (vi x1_7), some (vi x2)]) hX dX11_tardinessNow_54 rfl ex1_7 rfl ?_
    obtain ⟨x2_8, ex2_8, h⟩ := bnd_of h
    refine x_iinc (ls' := [some (vr (xG X) 0), some (vi x1_7), some (vi x2_8)]) hX dX11_tardinessNow_55 rfl rfl ex2_8 rfl ?_
    refine x_goto (tgt := 15) hX dX11_tardinessNow_58 (by decide) ?_
    exact x_weak [true, true, true] rfl (hP (x1_7, x2_8) (Option.some.inj h).symm)
  · replace h := (if_neg hc).symm.trans h
    exact x_weak [false, true, false] rfl (hE x1 (Option.some.inj h).symm)
set_option maxRecDepth 100000 in
set_option maxHeartbeats 4000000 in
theorem c_X11_tardinessNow {l : Launch} {G : Gx} (hG : GOK G) (hl : l.stackTraces = false) (hs : SOK G)  (M : Mem) (r : Int) (Mr : Mem) (h : f_X11_tardinessNow M = some (r, Mr)) : Cn l G mX11_tardinessNow 6 [vr G 0] M (some (vi r)) Mr := by
  refine Cn_of2 (ls := [some (vr G 0), none, none]) hG hl kX11_tardinessNow rfl (Nat.le_of_ble_eq_true rfl) rfl rfl rfl rfl rfl (fun X eG el hX => ?_)
  subst eG; subst el
  unfold f_X11_tardinessNow at h
  refine x_aloadn hX dX11_tardinessNow_0 rfl ?_
  refine x_getRj (j := 49) hX dX11_tardinessNow_1 fl_X11_40 rfl (st0 hs) rfl ?_
  refine x_aloadn hX dX11_tardinessNow_4 rfl ?_
  refine x_getRj (j := 1) hX dX11_tardinessNow_5 fl_X11_10 rfl (st0 hs) rfl ?_
  obtain ⟨M_2, er_1, h⟩ := cl1_of h
  refine x_callVv (t := 7) (As := [vr (xG X) 1]) (rest := []) hX dX11_tardinessNow_8 (c_X7_runAll (gk hX) (gl hX) (st49 hs) (st1 hs) M _ er_1) kX7_runAll vX7_runAll w_671 (st49 hs) rfl rfl rfl rfl (Nat.le_of_ble_eq_true rfl) z0 ?_
  refine x_iconst hX dX11_tardinessNow_11 ?_
  refine x_istoren (ls' := [some (vr (xG X) 0), some (vi 0), none]) hX dX11_tardinessNow_12 rfl rfl rfl ?_
  refine x_iconst hX dX11_tardinessNow_13 ?_
  refine x_istoren (ls' := [some (vr (xG X) 0), some (vi 0), some (vi 0)]) hX dX11_tardinessNow_14 rfl rfl rfl ?_
  refine x_weak (ls' := [some (vr (xG X) 0), some (vi 0), some (vi 0)]) [true, true, true] rfl ?_
  refine lp_use (x := (0, 0)) (P := fun x => V X 0 0 (Qn X (some (vi r)) Mr) 15 [some (vr (xG X) 0), some (vi x.1), some (vi x.2)] [] M_2) (PE := fun z_9 => V X 0 0 (Qn X (some (vi r)) Mr) 61 [none, some (vi z_9), none] [] M_2) (PR := fun q => (Qn X (some (vi r)) Mr) = Qn X (some (vi q.1)) q.2) h (fun x o hh hP hE hR => ts_X11_tardinessNow_15 hX hs M_2 x.1 x.2 o hh hP hE hR) (fun z_9 h => ?_) (fun q h => ?_)
  · show V X 0 0 (Qn X (some (vi r)) Mr) 61 [none, some (vi z_9), none] [] M_2
    refine x_iloadn hX dX11_tardinessNow_61 rfl ?_
    cases h
    exact x_iret hX dX11_tardinessNow_62 rfl
  · cases h; rfl
set_option maxRecDepth 100000 in
set_option maxHeartbeats 4000000 in
theorem ts_X4_makeAll_24 {X : Cxt} (hX : Gd X RX4 cX4_makeAll 6 (some .int) 6) (hs : SOK (xG X)) {a1 : Nat} (h1 : at_ (xG X) a1 11 0) (x2 : Int) (x3 : Int) (x4 : Int) (x5 : Int) (M : Mem) {Q : State → Prop} (o : (Int × Mem) ⊕ ((Mem) ⊕ (Int × Mem))) (h : s_X4_makeAll_24 a1 x2 x3 x4 x5 M = some o) (hP : ∀ y, o = .inl y → V X 0 0 Q 24 [some (vr (xG X) 86), some (vr (xG X) a1), some (vi x2), some (vi x3), some (vi x4), some (vi y.1)] [] y.2) (hE : ∀ z, o = .inr (.inl z) → V X 0 0 Q 51 [some (vr (xG X) 86), some (vr (xG X) a1), some (vi x2), some (vi x3), some (vi x4), none] [] z) (hR : ∀ q, o = .inr (.inr q) → Q = Qn X (some (vi q.1)) q.2) : V X 0 0 Q 24 [some (vr (xG X) 86), some (vr (xG X) a1), some (vi x2), some (vi x3), some (vi x4), some (vi x5)] [] M := by
  unfold s_X4_makeAll_24 at h
  refine x_iload hX dX4_makeAll_24 rfl ?_
  refine x_aloadn hX dX4_makeAll_26 rfl ?_
  refine x_getRj (j := a1 + 9) hX dX4_makeAll_27 fl_X4_30 rfl h1 rfl ?_
  refine x_getI hX dX4_makeAll_30 fl_X4_36 rfl (fo_1_2 (gk hX) h1) ?_
  refine x_icmp_ge (tgt := 51) hX dX4_makeAll_33 (by decide) rfl rfl (fun hc => ?_) (fun hc => ?_)
  · replace h := (if_pos hc).symm.trans h
    refine x_aloadn hX dX4_makeAll_36 rfl ?_
    refine x_aloadn hX dX4_makeAll_37 rfl ?_
    refine x_iload hX dX4_makeAll_38 rfl ?_
    refine x_iloadn hX dX4_makeAll_40 rfl ?_
    refine x_iloadn hX dX4_makeAll_41 rfl ?_
    obtain ⟨M_5, er_4, h⟩ := cl1_of h
    refine x_callVv (t := 4) (As := [vr (xG X) a1, vi x5, vi x2, vi x3]) (rest := []) hX dX4_makeAll_42 (c_X4_tryMoves (gk hX) (gl hX) hs h1 x5 x2 x3 M _ er_4) kX4_tryMoves vX4_tryMoves w_1319 (st86 hs) rfl rfl rfl rfl (Nat.le_of_ble_eq_true rfl) z0 ?_
    obtain ⟨x5_6, ex5_6, h⟩ := bnd_of h
    refine x_iinc (ls' := [some (vr (xG X) 86), some (vr (xG X) a1), some (vi x2), some (vi x3), some (vi x4), some (vi x5_6)]) hX dX4_makeAll_45 rfl rfl ex5_6 rfl ?_
    refine x_goto (tgt := 24) hX dX4_makeAll_48 (by decide) ?_
    exact x_weak [true, true, true, true, true, true] rfl (hP (x5_6, M_5) (Option.some.inj h).symm)
  · replace h := (if_neg hc).symm.trans h
    exact x_weak [true, true, true, true, true, false] rfl (hE M (Option.some.inj h).symm)
set_option maxRecDepth 100000 in
set_option maxHeartbeats 4000000 in
theorem ts_X4_makeAll_3 {X : Cxt} (hX : Gd X RX4 cX4_makeAll 6 (some .int) 6) (hs : SOK (xG X)) {a1 : Nat} (h1 : at_ (xG X) a1 11 0) (x2 : Int) (x3 : Int) (x4 : Int) (M : Mem) {Q : State → Prop} (o : (Int × Mem) ⊕ ((Mem) ⊕ (Int × Mem))) (h : s_X4_makeAll_3 a1 x2 x3 x4 M = some o) (hP : ∀ y, o = .inl y → V X 0 0 Q 3 [some (vr (xG X) 86), some (vr (xG X) a1), some (vi x2), some (vi x3), some (vi y.1), none] [] y.2) (hE : ∀ z, o = .inr (.inl z) → V X 0 0 Q 82 [none, none, none, none, none, none] [] z) (hR : ∀ q, o = .inr (.inr q) → Q = Qn X (some (vi q.1)) q.2) : V X 0 0 Q 3 [some (vr (xG X) 86), some (vr (xG X) a1), some (vi x2), some (vi x3), some (vi x4), none] [] M := by
  unfold s_X4_makeAll_3 at h
  refine x_iload hX dX4_makeAll_3 rfl ?_
  refine x_sipush hX dX4_makeAll_5 sp_10000 ?_
  refine x_icmp_ge (tgt := 82) hX dX4_makeAll_8 (by decide) rfl cw_10000 (fun hc => ?_) (fun hc => ?_)
  · replace h := (if_pos hc).symm.trans h
    refine x_aloadn hX dX4_makeAll_11 rfl ?_
    refine x_aloadn hX dX4_makeAll_12 rfl ?_
    obtain ⟨M_2, er_1, h⟩ := cl1_of h
    refine x_callVv (t := 4) (As := [vr (xG X) a1]) (rest := []) hX dX4_makeAll_13 (c_X4_measureBatches (gk hX) (gl hX) hs h1 M _ er_1) kX4_measureBatches vX4_measureBatches w_1314 (st86 hs) rfl rfl rfl rfl (Nat.le_of_ble_eq_true rfl) z0 ?_
    refine x_aloadn hX dX4_makeAll_16 rfl ?_
    refine x_iconst hX dX4_makeAll_17 ?_
    obtain ⟨M_3, eM_3, h⟩ := bnd_of h
    refine x_putI hX dX4_makeAll_18 fp_X4_26 rfl (st86 hs) (x_meq eM_3 ?_)
    refine x_iconst hX dX4_makeAll_21 ?_
    refine x_istore (ls' := [some (vr (xG X) 86), some (vr (xG X) a1), some (vi x2), some (vi x3), some (vi x4), some (vi 0)]) hX dX4_makeAll_22 rfl rfl rfl ?_
    refine x_weak (ls' := [some (vr (xG X) 86), some (vr (xG X) a1), some (vi x2), some (vi x3), some (vi x4), some (vi 0)]) [true, true, true, true, true, true] rfl ?_
    refine lp_use (x := (0, M_3)) (P := fun x => V X 0 0 Q 24 [some (vr (xG X) 86), some (vr (xG X) a1), some (vi x2), some (vi x3), some (vi x4), some (vi x.1)] [] x.2) (PE := fun z_7 => V X 0 0 Q 51 [some (vr (xG X) 86), some (vr (xG X) a1), some (vi x2), some (vi x3), some (vi x4), none] [] z_7) (PR := fun q => Q = Qn X (some (vi q.1)) q.2) h (fun x o hh hP hE hR => ts_X4_makeAll_24 hX hs h1 x2 x3 x4 x.1 x.2 o hh hP hE hR) (fun z_7 h => ?_) (fun q h => ?_)
    · show V X 0 0 Q 51 [some (vr (xG X) 86), some (vr (xG X) a1), some (vi x2), some (vi x3), some (vi x4), none] [] z_7
      refine x_aloadn hX dX4_makeAll_51 rfl ?_
      refine x_getI hX dX4_makeAll_52 fl_X4_26 rfl (st86 hs) ?_
      refine x_if_ne (tgt := 61) hX dX4_makeAll_55 (by decide) rfl (fun hc => ?_) (fun hc => ?_)
      · replace h := (if_pos hc).symm.trans h
        refine x_iload hX dX4_makeAll_58 rfl ?_
        exact x_qeq (hR (x4, z_7) (Option.some.inj h).symm) (x_iret hX dX4_makeAll_60 rfl)
      · replace h := (if_neg hc).symm.trans h
        refine x_aloadn hX dX4_makeAll_61 rfl ?_
        refine x_getRj (j := a1 + 16) hX dX4_makeAll_62 fl_X4_45 rfl h1 rfl ?_
        refine x_aloadn hX dX4_makeAll_65 rfl ?_
        refine x_getI hX dX4_makeAll_66 fl_X4_49 rfl (st86 hs) ?_
        refine x_aloadn hX dX4_makeAll_69 rfl ?_
        refine x_getI hX dX4_makeAll_70 fl_X4_52 rfl (st86 hs) ?_
        obtain ⟨M_9, er_8, h⟩ := cl1_of h
        refine x_callVv (t := 0) (As := [vi (z_7 86 3), vi (z_7 86 4)]) (rest := []) hX dX4_makeAll_73 (c_X0_move (gk hX) (gl hX) (fo_1_3 (gk hX) h1) (z_7 86 3) (z_7 86 4) z_7 _ er_8) kX0_move vX0_move w_1330 (fo_1_3 (gk hX) h1) rfl rfl rfl rfl (Nat.le_of_ble_eq_true rfl) z0 ?_
        obtain ⟨x4_10, ex4_10, h⟩ := bnd_of h
        refine x_iinc (ls' := [some (vr (xG X) 86), some (vr (xG X) a1), some (vi x2), some (vi x3), some (vi x4_10), none]) hX dX4_makeAll_76 rfl rfl ex4_10 rfl ?_
        refine x_goto (tgt := 3) hX dX4_makeAll_79 (by decide) ?_
        exact x_weak [true, true, true, true, true, false] rfl (hP (x4_10, M_9) (Option.some.inj h).symm)
    · exact hR q (Option.some.inj h).symm
  · replace h := (if_neg hc).symm.trans h
    exact x_weak [false, false, false, false, false, false] rfl (hE M (Option.some.inj h).symm)
set_option maxRecDepth 100000 in
set_option maxHeartbeats 4000000 in
theorem c_X4_makeAll {l : Launch} {G : Gx} (hG : GOK G) (hl : l.stackTraces = false) (hs : SOK G) {a1 : Nat} (h1 : at_ G a1 11 0) (x2 : Int) (x3 : Int) (M : Mem) (r : Int) (Mr : Mem) (h : f_X4_makeAll a1 x2 x3 M = some (r, Mr)) : Cn l G mX4_makeAll 6 [vr G 86, vr G a1, vi x2, vi x3] M (some (vi r)) Mr := by
  refine Cn_of2 (ls := [some (vr G 86), some (vr G a1), some (vi x2), some (vi x3), none, none]) hG hl kX4_makeAll rfl (Nat.le_of_ble_eq_true rfl) rfl rfl rfl rfl rfl (fun X eG el hX => ?_)
  subst eG; subst el
  unfold f_X4_makeAll at h
  refine x_iconst hX dX4_makeAll_0 ?_
  refine x_istore (ls' := [some (vr (xG X) 86), some (vr (xG X) a1), some (vi x2), some (vi x3), some (vi 0), none]) hX dX4_makeAll_1 rfl rfl rfl ?_
  refine x_weak (ls' := [some (vr (xG X) 86), some (vr (xG X) a1), some (vi x2), some (vi x3), some (vi 0), none]) [true, true, true, true, true, false] rfl ?_
  refine lp_use (x := (0, M)) (P := fun x => V X 0 0 (Qn X (some (vi r)) Mr) 3 [some (vr (xG X) 86), some (vr (xG X) a1), some (vi x2), some (vi x3), some (vi x.1), none] [] x.2) (PE := fun z_11 => V X 0 0 (Qn X (some (vi r)) Mr) 82 [none, none, none, none, none, none] [] z_11) (PR := fun q => (Qn X (some (vi r)) Mr) = Qn X (some (vi q.1)) q.2) h (fun x o hh hP hE hR => ts_X4_makeAll_3 hX hs h1 x2 x3 x.1 x.2 o hh hP hE hR) (fun z_11 h => ?_) (fun q h => ?_)
  · show V X 0 0 (Qn X (some (vi r)) Mr) 82 [none, none, none, none, none, none] [] z_11
    refine x_sipush hX dX4_makeAll_82 sp_10000 ?_
    cases h
    exact x_iret hX dX4_makeAll_85 rfl
  · cases h; rfl
set_option maxRecDepth 100000 in
set_option maxHeartbeats 4000000 in
theorem c_X10_readHall {l : Launch} {G : Gx} (hG : GOK G) (hl : l.stackTraces = false) (hs : SOK G) {a1 : Nat} (h1 : at_ G a1 13 0) (M : Mem) (r : Int) (Mr : Mem) (h : f_X10_readHall a1 M = some (r, Mr)) : Cn l G mX10_readHall 6 [vr G 38, vr G a1] M (some (vi r)) Mr := by
  refine Cn_of2 (ls := [some (vr G 38), some (vr G a1), none, none]) hG hl kX10_readHall rfl (Nat.le_of_ble_eq_true rfl) rfl rfl rfl rfl rfl (fun X eG el hX => ?_)
  subst eG; subst el
  unfold f_X10_readHall at h
  refine x_aloadn hX dX10_readHall_0 rfl ?_
  obtain ⟨M_2, er_1, h⟩ := cl1_of h
  refine x_callVv (t := 9) (As := []) (rest := []) hX dX10_readHall_1 (c_X10_nextToken (gk hX) (gl hX) hs M _ er_1) kX10_nextToken vX10_nextToken w_783 (st38 hs) rfl rfl rfl rfl (Nat.le_of_ble_eq_true rfl) z0 ?_
  refine x_aloadn hX dX10_readHall_4 rfl ?_
  refine x_ldcS (k' := 0) hX dX10_readHall_5 rfl ?_
  obtain ⟨r_3, er_3, h⟩ := cl1_of h
  refine x_callVi (t := 9) (As := [vsz (xG X) 0]) (rest := []) hX dX10_readHall_7 (c_X10_isWord (gk hX) (gl hX) hs rfl M_2 _ er_3) kX10_isWord vX10_isWord w_797 (st38 hs) rfl rfl rfl rfl (Nat.le_of_ble_eq_true rfl) z0 ?_
  refine x_if_ne (tgt := 19) hX dX10_readHall_10 (by decide) rfl (fun hc => ?_) (fun hc => ?_)
  · replace h := (if_pos hc).symm.trans h
    refine x_aloadn hX dX10_readHall_13 rfl ?_
    refine x_iconst hX dX10_readHall_14 ?_
    obtain ⟨r_5, M_6, er_5, h⟩ := cl2_of h
    refine x_callVi (t := 9) (As := [vi 1]) (rest := []) hX dX10_readHall_15 (c_X10_fail (gk hX) (gl hX) hs 1 M_2 _ _ er_5) kX10_fail vX10_fail w_849 (st38 hs) rfl rfl rfl rfl (Nat.le_of_ble_eq_true rfl) z0 ?_
    obtain ⟨b_7, h⟩ := gz_of h
    cases h
    exact x_zret hX dX10_readHall_18 b_7 rfl
  · replace h := (if_neg hc).symm.trans h
    refine x_aloadn hX dX10_readHall_19 rfl ?_
    refine x_iconst hX dX10_readHall_20 ?_
    refine x_bipush hX dX10_readHall_21 bp_6 ?_
    obtain ⟨r_8, M_9, er_8, h⟩ := cl2_of h
    refine x_callVi (t := 9) (As := [vi 1, vi 6]) (rest := []) hX dX10_readHall_23 (c_X10_readNumber (gk hX) (gl hX) hs 1 6 M_2 _ _ er_8) kX10_readNumber vX10_readNumber w_853 (st38 hs) rfl rfl rfl rfl (Nat.le_of_ble_eq_true rfl) z0 ?_
    refine x_if_ne (tgt := 31) hX dX10_readHall_26 (by decide) rfl (fun hc => ?_) (fun hc => ?_)
    · replace h := (if_pos hc).symm.trans h
      refine x_iconst hX dX10_readHall_29 ?_
      cases h
      exact x_zret hX dX10_readHall_30 (Or.inl cw_0) rfl
    · replace h := (if_neg hc).symm.trans h
      refine x_aloadn hX dX10_readHall_31 rfl ?_
      refine x_getI hX dX10_readHall_32 fl_X10_68 rfl (st38 hs) ?_
      obtain ⟨x2_10, ex2_10, h⟩ := bnd_of h
      refine x_istoren (ls' := [some (vr (xG X) 38), some (vr (xG X) a1), some (vi x2_10), none]) hX dX10_readHall_35 rfl ex2_10 rfl ?_
      refine x_aloadn hX dX10_readHall_36 rfl ?_
      refine x_iconst hX dX10_readHall_37 ?_
      refine x_bipush hX dX10_readHall_38 bp_20 ?_
      obtain ⟨r_11, M_12, er_11, h⟩ := cl2_of h
      refine x_callVi (t := 9) (As := [vi 2, vi 20]) (rest := []) hX dX10_readHall_40 (c_X10_readNumber (gk hX) (gl hX) hs 2 20 M_9 _ _ er_11) kX10_readNumber vX10_readNumber w_853 (st38 hs) rfl rfl rfl rfl (Nat.le_of_ble_eq_true rfl) z0 ?_
      refine x_if_ne (tgt := 48) hX dX10_readHall_43 (by decide) rfl (fun hc => ?_) (fun hc => ?_)
      · replace h := (if_pos hc).symm.trans h
        refine x_iconst hX dX10_readHall_46 ?_
        cases h
        exact x_zret hX dX10_readHall_47 (Or.inl cw_0) rfl
      · replace h := (if_neg hc).symm.trans h
        refine x_aloadn hX dX10_readHall_48 rfl ?_
        refine x_getI hX dX10_readHall_49 fl_X10_68 rfl (st38 hs) ?_
        obtain ⟨x3_13, ex3_13, h⟩ := bnd_of h
        refine x_istoren (ls' := [some (vr (xG X) 38), some (vr (xG X) a1), some (vi x2_10), some (vi x3_13)]) hX dX10_readHall_52 rfl ex3_13 rfl ?_
        refine x_aloadn hX dX10_readHall_53 rfl ?_
        refine x_iconst hX dX10_readHall_54 ?_
        refine x_bipush hX dX10_readHall_55 bp_9 ?_
        obtain ⟨r_14, M_15, er_14, h⟩ := cl2_of h
        refine x_callVi (t := 9) (As := [vi 1, vi 9]) (rest := []) hX dX10_readHall_57 (c_X10_readNumber (gk hX) (gl hX) hs 1 9 M_12 _ _ er_14) kX10_readNumber vX10_readNumber w_853 (st38 hs) rfl rfl rfl rfl (Nat.le_of_ble_eq_true rfl) z0 ?_
        refine x_if_ne (tgt := 65) hX dX10_readHall_60 (by decide) rfl (fun hc => ?_) (fun hc => ?_)
        · replace h := (if_pos hc).symm.trans h
          refine x_iconst hX dX10_readHall_63 ?_
          cases h
          exact x_zret hX dX10_readHall_64 (Or.inl cw_0) rfl
        · replace h := (if_neg hc).symm.trans h
          refine x_aloadn hX dX10_readHall_65 rfl ?_
          refine x_iloadn hX dX10_readHall_66 rfl ?_
          refine x_iloadn hX dX10_readHall_67 rfl ?_
          refine x_aloadn hX dX10_readHall_68 rfl ?_
          refine x_getI hX dX10_readHall_69 fl_X10_68 rfl (st38 hs) ?_
          obtain ⟨M_17, er_16, h⟩ := cl1_of h
          refine x_callVv (t := 3) (As := [vi x2_10, vi x3_13, vi (M_15 38 7)]) (rest := []) hX dX10_readHall_72 (c_X3_build (gk hX) (gl hX) h1 x2_10 x3_13 (M_15 38 7) M_15 _ er_16) kX3_build vX3_build w_861 h1 rfl rfl rfl rfl (Nat.le_of_ble_eq_true rfl) z0 ?_
          refine x_aloadn hX dX10_readHall_75 rfl ?_
          obtain ⟨r_18, M_19, er_18, h⟩ := cl2_of h
          refine x_callVi (t := 9) (As := []) (rest := []) hX dX10_readHall_76 (c_X10_readSemicolon (gk hX) (gl hX) hs M_17 _ _ er_18) kX10_readSemicolon vX10_readSemicolon w_862 (st38 hs) rfl rfl rfl rfl (Nat.le_of_ble_eq_true rfl) z0 ?_
          obtain ⟨b_20, h⟩ := gz_of h
          cases h
          exact x_zret hX dX10_readHall_79 b_20 rfl
set_option maxRecDepth 100000 in
set_option maxHeartbeats 4000000 in
theorem ts_X10_readOrder_45 {X : Cxt} (hX : Gd X RX10 cX10_readOrder 5 (some .boolean) 6) (hs : SOK (xG X)) {a1 : Nat} (h1 : at_ (xG X) a1 11 0) (x2 : Int) (x3 : Int) (M : Mem) {Q : State → Prop} (o : (Int × Mem) ⊕ ((Mem) ⊕ (Int × Mem))) (h : s_X10_readOrder_45 a1 x2 x3 M = some o) (hP : ∀ y, o = .inl y → V X 0 0 Q 45 [some (vr (xG X) 38), some (vr (xG X) a1), some (vi x2), some (vi y.1), none] [] y.2) (hE : ∀ z, o = .inr (.inl z) → V X 0 0 Q 169 [none, none, none, none, none] [] z) (hR : ∀ q, o = .inr (.inr q) → Q = Qn X (some (vi q.1)) q.2) : V X 0 0 Q 45 [some (vr (xG X) 38), some (vr (xG X) a1), some (vi x2), some (vi x3), none] [] M := by
  unfold s_X10_readOrder_45 at h
  refine x_iloadn hX dX10_readOrder_45 rfl ?_
  refine x_bipush hX dX10_readOrder_46 bp_6 ?_
  refine x_icmp_gt (tgt := 169) hX dX10_readOrder_48 (by decide) rfl cw_6 (fun hc => ?_) (fun hc => ?_)
  · replace h := (if_pos hc).symm.trans h
    exact x_weak [false, false, false, false, false] rfl (hE M (Option.some.inj h).symm)
  · replace h := (if_neg hc).symm.trans h
    refine x_aloadn hX dX10_readOrder_51 rfl ?_
    obtain ⟨M_6, er_5, h⟩ := cl1_of h
    refine x_callVv (t := 9) (As := []) (rest := []) hX dX10_readOrder_52 (c_X10_nextToken (gk hX) (gl hX) hs M _ er_5) kX10_nextToken vX10_nextToken w_783 (st38 hs) rfl rfl rfl rfl (Nat.le_of_ble_eq_true rfl) z0 ?_
    refine x_aloadn hX dX10_readOrder_55 rfl ?_
    refine x_getI hX dX10_readOrder_56 fl_X10_44 rfl (st38 hs) ?_
    refine x_iconst hX dX10_readOrder_59 ?_
    refine x_icmp_ne (tgt := 65) hX dX10_readOrder_60 (by decide) rfl cw_3 (fun hc => ?_) (fun hc => ?_)
    · replace h := (if_pos hc).symm.trans h
      refine x_iconst hX dX10_readOrder_63 ?_
      exact x_qeq (hR (1, M_6) (Option.some.inj h).symm) (x_zret hX dX10_readOrder_64 (Or.inr cw_1) rfl)
    · replace h := (if_neg hc).symm.trans h
      refine x_aloadn hX dX10_readOrder_65 rfl ?_
      refine x_ldcS (k' := 3) hX dX10_readOrder_66 rfl ?_
      obtain ⟨r_7, er_7, h⟩ := cl1_of h
      refine x_callVi (t := 9) (As := [vsz (xG X) 3]) (rest := []) hX dX10_readOrder_68 (c_X10_isWord (gk hX) (gl hX) hs rfl M_6 _ er_7) kX10_isWord vX10_isWord w_797 (st38 hs) rfl rfl rfl rfl (Nat.le_of_ble_eq_true rfl) z0 ?_
      refine x_if_ne (tgt := 80) hX dX10_readOrder_71 (by decide) rfl (fun hc => ?_) (fun hc => ?_)
      · replace h := (if_pos hc).symm.trans h
        refine x_aloadn hX dX10_readOrder_74 rfl ?_
        refine x_iconst hX dX10_readOrder_75 ?_
        obtain ⟨r_9, M_10, er_9, h⟩ := cl2_of h
        refine x_callVi (t := 9) (As := [vi 1]) (rest := []) hX dX10_readOrder_76 (c_X10_fail (gk hX) (gl hX) hs 1 M_6 _ _ er_9) kX10_fail vX10_fail w_849 (st38 hs) rfl rfl rfl rfl (Nat.le_of_ble_eq_true rfl) z0 ?_
        obtain ⟨b_11, h⟩ := gz_of h
        exact x_qeq (hR (r_9, M_10) (Option.some.inj h).symm) (x_zret hX dX10_readOrder_79 b_11 rfl)
      · replace h := (if_neg hc).symm.trans h
        refine x_iloadn hX dX10_readOrder_80 rfl ?_
        refine x_bipush hX dX10_readOrder_81 bp_6 ?_
        refine x_icmp_ne (tgt := 92) hX dX10_readOrder_83 (by decide) rfl cw_6 (fun hc => ?_) (fun hc => ?_)
        · replace h := (if_pos hc).symm.trans h
          refine x_aloadn hX dX10_readOrder_86 rfl ?_
          refine x_iconst hX dX10_readOrder_87 ?_
          obtain ⟨r_12, M_13, er_12, h⟩ := cl2_of h
          refine x_callVi (t := 9) (As := [vi 3]) (rest := []) hX dX10_readOrder_88 (c_X10_fail (gk hX) (gl hX) hs 3 M_6 _ _ er_12) kX10_fail vX10_fail w_849 (st38 hs) rfl rfl rfl rfl (Nat.le_of_ble_eq_true rfl) z0 ?_
          obtain ⟨b_14, h⟩ := gz_of h
          exact x_qeq (hR (r_12, M_13) (Option.some.inj h).symm) (x_zret hX dX10_readOrder_91 b_14 rfl)
        · replace h := (if_neg hc).symm.trans h
          refine x_aloadn hX dX10_readOrder_92 rfl ?_
          refine x_iconst hX dX10_readOrder_93 ?_
          refine x_aloadn hX dX10_readOrder_94 rfl ?_
          refine x_getRj (j := a1 + 4) hX dX10_readOrder_95 fl_X10_111 rfl h1 rfl ?_
          refine x_getI hX dX10_readOrder_98 fl_X10_115 rfl (fo_1_1 (gk hX) h1) ?_
          refine x_iconst hX dX10_readOrder_101 ?_
          refine x_isub hX dX10_readOrder_102 ?_
          obtain ⟨r_15, M_16, er_15, h⟩ := cl2_of h
          refine x_callVi (t := 9) (As := [vi 0, vi ((M_6 (a1 + 4) 0) - 1)]) (rest := []) hX dX10_readOrder_103 (c_X10_readNumber (gk hX) (gl hX) hs 0 ((M_6 (a1 + 4) 0) - 1) M_6 _ _ er_15) kX10_readNumber vX10_readNumber w_853 (st38 hs) rfl rfl rfl rfl (Nat.le_of_ble_eq_true rfl) z0 ?_
          refine x_if_ne (tgt := 111) hX dX10_readOrder_106 (by decide) rfl (fun hc => ?_) (fun hc => ?_)
          · replace h := (if_pos hc).symm.trans h
            refine x_iconst hX dX10_readOrder_109 ?_
            exact x_qeq (hR (0, M_16) (Option.some.inj h).symm) (x_zret hX dX10_readOrder_110 (Or.inl cw_0) rfl)
          · replace h := (if_neg hc).symm.trans h
            refine x_aloadn hX dX10_readOrder_111 rfl ?_
            refine x_getI hX dX10_readOrder_112 fl_X10_68 rfl (st38 hs) ?_
            obtain ⟨x4_17, ex4_17, h⟩ := bnd_of h
            refine x_istore (ls' := [some (vr (xG X) 38), some (vr (xG X) a1), some (vi x2), some (vi x3), some (vi x4_17)]) hX dX10_readOrder_115 rfl ex4_17 rfl ?_
            refine x_aloadn hX dX10_readOrder_117 rfl ?_
            refine x_getRj (j := a1 + 9) hX dX10_readOrder_118 fl_X10_130 rfl h1 rfl ?_
            refine x_iloadn hX dX10_readOrder_121 rfl ?_
            refine x_iload hX dX10_readOrder_122 rfl ?_
            obtain ⟨r_18, er_18, h⟩ := cl1_of h
            refine x_callVi (t := 5) (As := [vi x2, vi x4_17]) (rest := []) hX dX10_readOrder_124 (c_X5_hasItem (gk hX) (gl hX) (fo_1_2 (gk hX) h1) x2 x4_17 M_16 _ er_18) kX5_hasItem vX5_hasItem w_889 (fo_1_2 (gk hX) h1) rfl rfl rfl rfl (Nat.le_of_ble_eq_true rfl) z0 ?_
            refine x_if_eq (tgt := 136) hX dX10_readOrder_127 (by decide) rfl (fun hc => ?_) (fun hc => ?_)
            · replace h := (if_pos hc).symm.trans h
              refine x_aloadn hX dX10_readOrder_136 rfl ?_
              refine x_iconst hX dX10_readOrder_137 ?_
              refine x_bipush hX dX10_readOrder_138 bp_99 ?_
              obtain ⟨r_20, M_21, er_20, h⟩ := cl2_of h
              refine x_callVi (t := 9) (As := [vi 1, vi 99]) (rest := []) hX dX10_readOrder_140 (c_X10_readNumber (gk hX) (gl hX) hs 1 99 M_16 _ _ er_20) kX10_readNumber vX10_readNumber w_853 (st38 hs) rfl rfl rfl rfl (Nat.le_of_ble_eq_true rfl) z0 ?_
              refine x_if_ne (tgt := 148) hX dX10_readOrder_143 (by decide) rfl (fun hc => ?_) (fun hc => ?_)
              · replace h := (if_pos hc).symm.trans h
                refine x_iconst hX dX10_readOrder_146 ?_
                exact x_qeq (hR (0, M_21) (Option.some.inj h).symm) (x_zret hX dX10_readOrder_147 (Or.inl cw_0) rfl)
              · replace h := (if_neg hc).symm.trans h
                refine x_aloadn hX dX10_readOrder_148 rfl ?_
                refine x_getRj (j := a1 + 9) hX dX10_readOrder_149 fl_X10_130 rfl h1 rfl ?_
                refine x_iloadn hX dX10_readOrder_152 rfl ?_
                refine x_iload hX dX10_readOrder_153 rfl ?_
                refine x_aloadn hX dX10_readOrder_155 rfl ?_
                refine x_getI hX dX10_readOrder_156 fl_X10_68 rfl (st38 hs) ?_
                obtain ⟨r_22, M_23, er_22, h⟩ := cl2_of h
                refine x_callVi (t := 5) (As := [vi x2, vi x4_17, vi (M_21 38 7)]) (rest := []) hX dX10_readOrder_159 (c_X5_appendLine (gk hX) (gl hX) (fo_1_2 (gk hX) h1) x2 x4_17 (M_21 38 7) M_21 _ _ er_22) kX5_appendLine vX5_appendLine w_893 (fo_1_2 (gk hX) h1) rfl rfl rfl rfl (Nat.le_of_ble_eq_true rfl) z0 ?_
                refine x_pop hX dX10_readOrder_162 rfl ?_
                obtain ⟨x3_24, ex3_24, h⟩ := bnd_of h
                refine x_iinc (ls' := [some (vr (xG X) 38), some (vr (xG X) a1), some (vi x2), some (vi x3_24), some (vi x4_17)]) hX dX10_readOrder_163 rfl rfl ex3_24 rfl ?_
                refine x_goto (tgt := 45) hX dX10_readOrder_166 (by decide) ?_
                exact x_weak [true, true, true, true, false] rfl (hP (x3_24, M_23) (Option.some.inj h).symm)
            · replace h := (if_neg hc).symm.trans h
              refine x_aloadn hX dX10_readOrder_130 rfl ?_
              refine x_iconst hX dX10_readOrder_131 ?_
              obtain ⟨r_25, M_26, er_25, h⟩ := cl2_of h
              refine x_callVi (t := 9) (As := [vi 2]) (rest := []) hX dX10_readOrder_132 (c_X10_fail (gk hX) (gl hX) hs 2 M_16 _ _ er_25) kX10_fail vX10_fail w_849 (st38 hs) rfl rfl rfl rfl (Nat.le_of_ble_eq_true rfl) z0 ?_
              obtain ⟨b_27, h⟩ := gz_of h
              exact x_qeq (hR (r_25, M_26) (Option.some.inj h).symm) (x_zret hX dX10_readOrder_135 b_27 rfl)
set_option maxRecDepth 100000 in
set_option maxHeartbeats 4000000 in
theorem c_X10_readOrder {l : Launch} {G : Gx} (hG : GOK G) (hl : l.stackTraces = false) (hs : SOK G) {a1 : Nat} (h1 : at_ G a1 11 0) (M : Mem) (r : Int) (Mr : Mem) (h : f_X10_readOrder a1 M = some (r, Mr)) : Cn l G mX10_readOrder 6 [vr G 38, vr G a1] M (some (vi r)) Mr := by
  refine Cn_of2 (ls := [some (vr G 38), some (vr G a1), none, none, none]) hG hl kX10_readOrder rfl (Nat.le_of_ble_eq_true rfl) rfl rfl rfl rfl rfl (fun X eG el hX => ?_)
  subst eG; subst el
  unfold f_X10_readOrder at h
  refine x_aloadn hX dX10_readOrder_0 rfl ?_
  refine x_getRj (j := a1 + 9) hX dX10_readOrder_1 fl_X10_130 rfl h1 rfl ?_
  refine x_getI hX dX10_readOrder_4 fl_X10_134 rfl (fo_1_2 (gk hX) h1) ?_
  refine x_bipush hX dX10_readOrder_7 bp_16 ?_
  refine x_icmp_lt (tgt := 18) hX dX10_readOrder_9 (by decide) rfl cw_16 (fun hc => ?_) (fun hc => ?_)
  · replace h := (if_pos hc).symm.trans h
    refine x_aloadn hX dX10_readOrder_18 rfl ?_
    refine x_iconst hX dX10_readOrder_19 ?_
    refine x_sipush hX dX10_readOrder_20 sp_9999 ?_
    obtain ⟨r_1, M_2, er_1, h⟩ := cl2_of h
    refine x_callVi (t := 9) (As := [vi 0, vi 9999]) (rest := []) hX dX10_readOrder_23 (c_X10_readNumber (gk hX) (gl hX) hs 0 9999 M _ _ er_1) kX10_readNumber vX10_readNumber w_853 (st38 hs) rfl rfl rfl rfl (Nat.le_of_ble_eq_true rfl) z0 ?_
    refine x_if_ne (tgt := 31) hX dX10_readOrder_26 (by decide) rfl (fun hc => ?_) (fun hc => ?_)
    · replace h := (if_pos hc).symm.trans h
      refine x_iconst hX dX10_readOrder_29 ?_
      cases h
      exact x_zret hX dX10_readOrder_30 (Or.inl cw_0) rfl
    · replace h := (if_neg hc).symm.trans h
      refine x_aloadn hX dX10_readOrder_31 rfl ?_
      refine x_getRj (j := a1 + 9) hX dX10_readOrder_32 fl_X10_130 rfl h1 rfl ?_
      refine x_aloadn hX dX10_readOrder_35 rfl ?_
      refine x_getI hX dX10_readOrder_36 fl_X10_68 rfl (st38 hs) ?_
      obtain ⟨r_3, M_4, er_3, h⟩ := cl2_of h
      refine x_callVi (t := 5) (As := [vi (M_2 38 7)]) (rest := []) hX dX10_readOrder_39 (c_X5_append (gk hX) (gl hX) (fo_1_2 (gk hX) h1) (M_2 38 7) M_2 _ _ er_3) kX5_append vX5_append w_884 (fo_1_2 (gk hX) h1) rfl rfl rfl rfl (Nat.le_of_ble_eq_true rfl) z0 ?_
      refine x_istoren (ls' := [some (vr (xG X) 38), some (vr (xG X) a1), some (vi r_3), none, none]) hX dX10_readOrder_42 rfl rfl rfl ?_
      refine x_iconst hX dX10_readOrder_43 ?_
      refine x_istoren (ls' := [some (vr (xG X) 38), some (vr (xG X) a1), some (vi r_3), some (vi 0), none]) hX dX10_readOrder_44 rfl rfl rfl ?_
      refine x_weak (ls' := [some (vr (xG X) 38), some (vr (xG X) a1), some (vi r_3), some (vi 0), none]) [true, true, true, true, false] rfl ?_
      refine lp_use (x := (0, M_4)) (P := fun x => V X 0 0 (Qn X (some (vi r)) Mr) 45 [some (vr (xG X) 38), some (vr (xG X) a1), some (vi r_3), some (vi x.1), none] [] x.2) (PE := fun z_28 => V X 0 0 (Qn X (some (vi r)) Mr) 169 [none, none, none, none, none] [] z_28) (PR := fun q => (Qn X (some (vi r)) Mr) = Qn X (some (vi q.1)) q.2) h (fun x o hh hP hE hR => ts_X10_readOrder_45 hX hs h1 r_3 x.1 x.2 o hh hP hE hR) (fun z_28 h => ?_) (fun q h => ?_)
      · show V X 0 0 (Qn X (some (vi r)) Mr) 169 [none, none, none, none, none] [] z_28
        refine x_iconst hX dX10_readOrder_169 ?_
        cases h
        exact x_zret hX dX10_readOrder_170 (Or.inl cw_0) rfl
      · cases h; rfl
  · replace h := (if_neg hc).symm.trans h
    refine x_aloadn hX dX10_readOrder_12 rfl ?_
    refine x_iconst hX dX10_readOrder_13 ?_
    obtain ⟨r_29, M_30, er_29, h⟩ := cl2_of h
    refine x_callVi (t := 9) (As := [vi 3]) (rest := []) hX dX10_readOrder_14 (c_X10_fail (gk hX) (gl hX) hs 3 M _ _ er_29) kX10_fail vX10_fail w_849 (st38 hs) rfl rfl rfl rfl (Nat.le_of_ble_eq_true rfl) z0 ?_
    obtain ⟨b_31, h⟩ := gz_of h
    cases h
    exact x_zret hX dX10_readOrder_17 b_31 rfl
set_option maxRecDepth 100000 in
set_option maxHeartbeats 4000000 in
theorem tj_X10_readPolicy_78 {X : Cxt} (hX : Gd X RX10 cX10_readPolicy 2 (some .boolean) 6) (hs : SOK (xG X)) {a1 : Nat} (h1 : at_ (xG X) a1 13 0)  (M : Mem) (r : Int) (Mr : Mem) (h : j_X10_readPolicy_78 a1 M = some (r, Mr)) : V X 0 0 (Qn X (some (vi r)) Mr) 78 [some (vr (xG X) 38), none] [] M := by
  unfold j_X10_readPolicy_78 at h
  refine x_aloadn hX dX10_readPolicy_78 rfl ?_
  obtain ⟨r_15, M_16, er_15, h⟩ := cl2_of h
  refine x_callVi (t := 9) (As := []) (rest := []) hX dX10_readPolicy_79 (c_X10_readSemicolon (gk hX) (gl hX) hs M _ _ er_15) kX10_readSemicolon vX10_readSemicolon w_862 (st38 hs) rfl rfl rfl rfl (Nat.le_of_ble_eq_true rfl) z0 ?_
  obtain ⟨b_17, h⟩ := gz_of h
  cases h
  exact x_zret hX dX10_readPolicy_82 b_17 rfl
set_option maxRecDepth 100000 in
set_option maxHeartbeats 4000000 in
theorem c_X10_readPolicy {l : Launch} {G : Gx} (hG : GOK G) (hl : l.stackTraces = false) (hs : SOK G) {a1 : Nat} (h1 : at_ G a1 13 0) (M : Mem) (r : Int) (Mr : Mem) (h : f_X10_readPolicy a1 M = some (r, Mr)) : Cn l G mX10_readPolicy 6 [vr G 38, vr G a1] M (some (vi r)) Mr := by
  refine Cn_of2 (ls := [some (vr G 38), some (vr G a1)]) hG hl kX10_readPolicy rfl (Nat.le_of_ble_eq_true rfl) rfl rfl rfl rfl rfl (fun X eG el hX => ?_)
  subst eG; subst el
  unfold f_X10_readPolicy at h
  refine x_aloadn hX dX10_readPolicy_0 rfl ?_
  obtain ⟨M_2, er_1, h⟩ := cl1_of h
  refine x_callVv (t := 9) (As := []) (rest := []) hX dX10_readPolicy_1 (c_X10_nextToken (gk hX) (gl hX) hs M _ er_1) kX10_nextToken vX10_nextToken w_783 (st38 hs) rfl rfl rfl rfl (Nat.le_of_ble_eq_true rfl) z0 ?_
  refine x_aloadn hX dX10_readPolicy_4 rfl ?_
  refine x_ldcS (k' := 8) hX dX10_readPolicy_5 rfl ?_
  obtain ⟨r_3, er_3, h⟩ := cl1_of h
  refine x_callVi (t := 9) (As := [vsz (xG X) 8]) (rest := []) hX dX10_readPolicy_7 (c_X10_isWord (gk hX) (gl hX) hs rfl M_2 _ er_3) kX10_isWord vX10_isWord w_797 (st38 hs) rfl rfl rfl rfl (Nat.le_of_ble_eq_true rfl) z0 ?_
  refine x_if_eq (tgt := 21) hX dX10_readPolicy_10 (by decide) rfl (fun hc => ?_) (fun hc => ?_)
  · replace h := (if_pos hc).symm.trans h
    refine x_aloadn hX dX10_readPolicy_21 rfl ?_
    refine x_ldcS (k' := 9) hX dX10_readPolicy_22 rfl ?_
    obtain ⟨r_5, er_5, h⟩ := cl1_of h
    refine x_callVi (t := 9) (As := [vsz (xG X) 9]) (rest := []) hX dX10_readPolicy_24 (c_X10_isWord (gk hX) (gl hX) hs rfl M_2 _ er_5) kX10_isWord vX10_isWord w_797 (st38 hs) rfl rfl rfl rfl (Nat.le_of_ble_eq_true rfl) z0 ?_
    refine x_if_eq (tgt := 38) hX dX10_readPolicy_27 (by decide) rfl (fun hc => ?_) (fun hc => ?_)
    · replace h := (if_pos hc).symm.trans h
      refine x_aloadn hX dX10_readPolicy_38 rfl ?_
      refine x_ldcS (k' := 10) hX dX10_readPolicy_39 rfl ?_
      obtain ⟨r_7, er_7, h⟩ := cl1_of h
      refine x_callVi (t := 9) (As := [vsz (xG X) 10]) (rest := []) hX dX10_readPolicy_41 (c_X10_isWord (gk hX) (gl hX) hs rfl M_2 _ er_7) kX10_isWord vX10_isWord w_797 (st38 hs) rfl rfl rfl rfl (Nat.le_of_ble_eq_true rfl) z0 ?_
      refine x_if_eq (tgt := 55) hX dX10_readPolicy_44 (by decide) rfl (fun hc => ?_) (fun hc => ?_)
      · replace h := (if_pos hc).symm.trans h
        refine x_aloadn hX dX10_readPolicy_55 rfl ?_
        refine x_ldcS (k' := 11) hX dX10_readPolicy_56 rfl ?_
        obtain ⟨r_9, er_9, h⟩ := cl1_of h
        refine x_callVi (t := 9) (As := [vsz (xG X) 11]) (rest := []) hX dX10_readPolicy_58 (c_X10_isWord (gk hX) (gl hX) hs rfl M_2 _ er_9) kX10_isWord vX10_isWord w_797 (st38 hs) rfl rfl rfl rfl (Nat.le_of_ble_eq_true rfl) z0 ?_
        refine x_if_eq (tgt := 72) hX dX10_readPolicy_61 (by decide) rfl (fun hc => ?_) (fun hc => ?_)
        · replace h := (if_pos hc).symm.trans h
          refine x_aloadn hX dX10_readPolicy_72 rfl ?_
          refine x_iconst hX dX10_readPolicy_73 ?_
          obtain ⟨r_11, M_12, er_11, h⟩ := cl2_of h
          refine x_callVi (t := 9) (As := [vi 1]) (rest := []) hX dX10_readPolicy_74 (c_X10_fail (gk hX) (gl hX) hs 1 M_2 _ _ er_11) kX10_fail vX10_fail w_849 (st38 hs) rfl rfl rfl rfl (Nat.le_of_ble_eq_true rfl) z0 ?_
          obtain ⟨b_13, h⟩ := gz_of h
          cases h
          exact x_zret hX dX10_readPolicy_77 b_13 rfl
        · replace h := (if_neg hc).symm.trans h
          refine x_aloadn hX dX10_readPolicy_64 rfl ?_
          refine x_iconst hX dX10_readPolicy_65 ?_
          obtain ⟨M_14, eM_14, h⟩ := bnd_of h
          refine x_putI hX dX10_readPolicy_66 fp_X10_168 rfl h1 (x_meq eM_14 ?_)
          refine x_goto (tgt := 78) hX dX10_readPolicy_69 (by decide) ?_
          exact x_weak [true, false] rfl (tj_X10_readPolicy_78 hX hs h1 M_14 r Mr h)
      · replace h := (if_neg hc).symm.trans h
        refine x_aloadn hX dX10_readPolicy_47 rfl ?_
        refine x_iconst hX dX10_readPolicy_48 ?_
        obtain ⟨M_18, eM_18, h⟩ := bnd_of h
        refine x_putI hX dX10_readPolicy_49 fp_X10_168 rfl h1 (x_meq eM_18 ?_)
        refine x_goto (tgt := 78) hX dX10_readPolicy_52 (by decide) ?_
        exact x_weak [true, false] rfl (tj_X10_readPolicy_78 hX hs h1 M_18 r Mr h)
    · replace h := (if_neg hc).symm.trans h
      refine x_aloadn hX dX10_readPolicy_30 rfl ?_
      refine x_iconst hX dX10_readPolicy_31 ?_
      obtain ⟨M_19, eM_19, h⟩ := bnd_of h
      refine x_putI hX dX10_readPolicy_32 fp_X10_168 rfl h1 (x_meq eM_19 ?_)
      refine x_goto (tgt := 78) hX dX10_readPolicy_35 (by decide) ?_
      exact x_weak [true, false] rfl (tj_X10_readPolicy_78 hX hs h1 M_19 r Mr h)
  · replace h := (if_neg hc).symm.trans h
    refine x_aloadn hX dX10_readPolicy_13 rfl ?_
    refine x_iconst hX dX10_readPolicy_14 ?_
    obtain ⟨M_20, eM_20, h⟩ := bnd_of h
    refine x_putI hX dX10_readPolicy_15 fp_X10_168 rfl h1 (x_meq eM_20 ?_)
    refine x_goto (tgt := 78) hX dX10_readPolicy_18 (by decide) ?_
    exact x_weak [true, false] rfl (tj_X10_readPolicy_78 hX hs h1 M_20 r Mr h)
set_option maxRecDepth 100000 in
set_option maxHeartbeats 4000000 in
theorem c_X11_improve {l : Launch} {G : Gx} (hG : GOK G) (hl : l.stackTraces = false) (hs : SOK G)  (x1 : Int) (x2 : Int) (M : Mem) (r : Nat ⊕ Int) (Mr : Mem) (h : f_X11_improve x1 x2 M = some (r, Mr)) : Cx l G mX11_improve 7 2 12 [vr G 0, vi x1, vi x2] M (ovi r) Mr := by
  refine Cx_of2 (ls := [some (vr G 0), some (vi x1), some (vi x2)]) hG hl kX11_improve rfl (Nat.le_of_ble_eq_true rfl) rfl rfl rfl rfl rfl (fun X eG el hX hN => ?_)
  subst eG; subst el
  unfold f_X11_improve at h
  refine x_iloadn hX dX11_improve_0 rfl ?_
  refine x_iloadn hX dX11_improve_1 rfl ?_
  rcases cx1_of h with ⟨e_3, ee_3, h⟩ | ⟨r_1, er_1, h⟩
  · exact x_rs2 (f := ovi) h (x_xSt (As := [vi x1, vi x2]) (rest := []) hX hN dX11_improve_2 (c_X11_needBatchLimits (gk hX) (gl hX) x1 x2 M _ ee_3) kX11_needBatchLimits sX11_needBatchLimits w_1215 rfl rfl rfl (Nat.le_of_ble_eq_true rfl) (Nat.le_of_ble_eq_true rfl) (Nat.le_of_ble_eq_true rfl))
  · refine x_xSr (As := [vi x1, vi x2]) (rest := []) hX dX11_improve_2 (c_X11_needBatchLimits (gk hX) (gl hX) x1 x2 M _ er_1) kX11_needBatchLimits sX11_needBatchLimits w_1215 rfl rfl rfl (Nat.le_of_ble_eq_true rfl) (kf hN (a := 2) (b := 12) (Nat.le_of_ble_eq_true rfl) (Nat.le_of_ble_eq_true rfl)) ?_
    show V X 2 12 _ 5 [some (vr (xG X) 0), some (vi x1), some (vi x2)] [] M
    refine x_aloadn hX dX11_improve_5 rfl ?_
    refine x_getRj (j := 86) hX dX11_improve_6 fl_X11_47 rfl (st0 hs) rfl ?_
    refine x_aloadn hX dX11_improve_9 rfl ?_
    refine x_getRj (j := 1) hX dX11_improve_10 fl_X11_10 rfl (st0 hs) rfl ?_
    refine x_iloadn hX dX11_improve_13 rfl ?_
    refine x_iloadn hX dX11_improve_14 rfl ?_
    obtain ⟨r_4, M_5, er_4, h⟩ := cl2_of h
    refine x_callVi (t := 4) (As := [vr (xG X) 1, vi x1, vi x2]) (rest := []) hX dX11_improve_15 (c_X4_makeAll (gk hX) (gl hX) hs (st1 hs) x1 x2 M _ _ er_4) kX4_makeAll vX4_makeAll w_1310 (st86 hs) rfl rfl rfl rfl (Nat.le_of_ble_eq_true rfl) (kf hN (a := 2) (b := 12) (Nat.le_of_ble_eq_true rfl) (Nat.le_of_ble_eq_true rfl)) ?_
    cases h
    exact x_iretX hX dX11_improve_18 (Nat.le_of_ble_eq_true rfl) (Nat.le_of_ble_eq_true rfl)
set_option maxRecDepth 100000 in
set_option maxHeartbeats 4000000 in
theorem c_X11_totalTardiness {l : Launch} {G : Gx} (hG : GOK G) (hl : l.stackTraces = false) (hs : SOK G)  (M : Mem) (r : Int) (Mr : Mem) (h : f_X11_totalTardiness M = some (r, Mr)) : Cn l G mX11_totalTardiness 7 [vr G 0] M (some (vi r)) Mr := by
  refine Cn_of2 (ls := [some (vr G 0)]) hG hl kX11_totalTardiness rfl (Nat.le_of_ble_eq_true rfl) rfl rfl rfl rfl rfl (fun X eG el hX => ?_)
  subst eG; subst el
  unfold f_X11_totalTardiness at h
  refine x_aloadn hX dX11_totalTardiness_0 rfl ?_
  obtain ⟨r_1, M_2, er_1, h⟩ := cl2_of h
  refine x_callVi (t := 10) (As := []) (rest := []) hX dX11_totalTardiness_1 (c_X11_tardinessNow (gk hX) (gl hX) hs M _ _ er_1) kX11_tardinessNow vX11_tardinessNow w_710 (st0 hs) rfl rfl rfl rfl (Nat.le_of_ble_eq_true rfl) z0 ?_
  cases h
  exact x_iret hX dX11_totalTardiness_4 rfl
set_option maxRecDepth 100000 in
set_option maxHeartbeats 4000000 in
theorem c_X11_meanTardinessNumerator {l : Launch} {G : Gx} (hG : GOK G) (hl : l.stackTraces = false) (hs : SOK G)  (M : Mem) (r : Int) (Mr : Mem) (h : f_X11_meanTardinessNumerator M = some (r, Mr)) : Cn l G mX11_meanTardinessNumerator 7 [vr G 0] M (some (vi r)) Mr := by
  refine Cn_of2 (ls := [some (vr G 0), none]) hG hl kX11_meanTardinessNumerator rfl (Nat.le_of_ble_eq_true rfl) rfl rfl rfl rfl rfl (fun X eG el hX => ?_)
  subst eG; subst el
  unfold f_X11_meanTardinessNumerator at h
  refine x_aloadn hX dX11_meanTardinessNumerator_0 rfl ?_
  obtain ⟨r_1, M_2, er_1, h⟩ := cl2_of h
  refine x_callVi (t := 10) (As := []) (rest := []) hX dX11_meanTardinessNumerator_1 (c_X11_tardinessNow (gk hX) (gl hX) hs M _ _ er_1) kX11_tardinessNow vX11_tardinessNow w_710 (st0 hs) rfl rfl rfl rfl (Nat.le_of_ble_eq_true rfl) z0 ?_
  refine x_istoren (ls' := [some (vr (xG X) 0), some (vi r_1)]) hX dX11_meanTardinessNumerator_4 rfl rfl rfl ?_
  refine x_iloadn hX dX11_meanTardinessNumerator_5 rfl ?_
  refine x_iloadn hX dX11_meanTardinessNumerator_6 rfl ?_
  refine x_aloadn hX dX11_meanTardinessNumerator_7 rfl ?_
  obtain ⟨r_3, er_3, h⟩ := cl1_of h
  refine x_callVi (t := 10) (As := []) (rest := [vi r_1, vi r_1]) hX dX11_meanTardinessNumerator_8 (c_X11_batchedOrders (gk hX) (gl hX) hs M_2 _ er_3) kX11_batchedOrders vX11_batchedOrders w_723 (st0 hs) rfl rfl rfl rfl (Nat.le_of_ble_eq_true rfl) z0 ?_
  obtain ⟨r_5, er_5, h⟩ := cl1_of h
  refine x_callSi (As := [vi r_1, vi r_3]) (rest := [vi r_1]) hX dX11_meanTardinessNumerator_11 (c_X11_commonDivisor (gk hX) (gl hX) r_1 r_3 M_2 _ er_5) kX11_commonDivisor sX11_commonDivisor w_732 rfl rfl rfl (Nat.le_of_ble_eq_true rfl) z0 ?_
  obtain ⟨b_7, h⟩ := gn_of h
  refine x_idiv hX dX11_meanTardinessNumerator_14 b_7 ?_
  cases h
  exact x_iret hX dX11_meanTardinessNumerator_15 rfl
set_option maxRecDepth 100000 in
set_option maxHeartbeats 4000000 in
theorem c_X11_meanTardinessDenominator {l : Launch} {G : Gx} (hG : GOK G) (hl : l.stackTraces = false) (hs : SOK G)  (M : Mem) (r : Int) (Mr : Mem) (h : f_X11_meanTardinessDenominator M = some (r, Mr)) : Cn l G mX11_meanTardinessDenominator 7 [vr G 0] M (some (vi r)) Mr := by
  refine Cn_of2 (ls := [some (vr G 0)]) hG hl kX11_meanTardinessDenominator rfl (Nat.le_of_ble_eq_true rfl) rfl rfl rfl rfl rfl (fun X eG el hX => ?_)
  subst eG; subst el
  unfold f_X11_meanTardinessDenominator at h
  refine x_aloadn hX dX11_meanTardinessDenominator_0 rfl ?_
  obtain ⟨r_1, er_1, h⟩ := cl1_of h
  refine x_callVi (t := 10) (As := []) (rest := []) hX dX11_meanTardinessDenominator_1 (c_X11_batchedOrders (gk hX) (gl hX) hs M _ er_1) kX11_batchedOrders vX11_batchedOrders w_723 (st0 hs) rfl rfl rfl rfl (Nat.le_of_ble_eq_true rfl) z0 ?_
  refine x_aloadn hX dX11_meanTardinessDenominator_4 rfl ?_
  obtain ⟨r_3, M_4, er_3, h⟩ := cl2_of h
  refine x_callVi (t := 10) (As := []) (rest := [vi r_1]) hX dX11_meanTardinessDenominator_5 (c_X11_tardinessNow (gk hX) (gl hX) hs M _ _ er_3) kX11_tardinessNow vX11_tardinessNow w_710 (st0 hs) rfl rfl rfl rfl (Nat.le_of_ble_eq_true rfl) z0 ?_
  refine x_aloadn hX dX11_meanTardinessDenominator_8 rfl ?_
  obtain ⟨r_5, er_5, h⟩ := cl1_of h
  refine x_callVi (t := 10) (As := []) (rest := [vi r_3, vi r_1]) hX dX11_meanTardinessDenominator_9 (c_X11_batchedOrders (gk hX) (gl hX) hs M_4 _ er_5) kX11_batchedOrders vX11_batchedOrders w_723 (st0 hs) rfl rfl rfl rfl (Nat.le_of_ble_eq_true rfl) z0 ?_
  obtain ⟨r_7, er_7, h⟩ := cl1_of h
  refine x_callSi (As := [vi r_3, vi r_5]) (rest := [vi r_1]) hX dX11_meanTardinessDenominator_12 (c_X11_commonDivisor (gk hX) (gl hX) r_3 r_5 M_4 _ er_7) kX11_commonDivisor sX11_commonDivisor w_732 rfl rfl rfl (Nat.le_of_ble_eq_true rfl) z0 ?_
  obtain ⟨b_9, h⟩ := gn_of h
  refine x_idiv hX dX11_meanTardinessDenominator_15 b_9 ?_
  cases h
  exact x_iret hX dX11_meanTardinessDenominator_16 rfl
set_option maxRecDepth 100000 in
set_option maxHeartbeats 4000000 in
theorem c_X10_readStatement {l : Launch} {G : Gx} (hG : GOK G) (hl : l.stackTraces = false) (hs : SOK G) {a1 : Nat} (h1 : at_ G a1 11 0) (M : Mem) (r : Int) (Mr : Mem) (h : f_X10_readStatement a1 M = some (r, Mr)) : Cn l G mX10_readStatement 7 [vr G 38, vr G a1] M (some (vi r)) Mr := by
  refine Cn_of2 (ls := [some (vr G 38), some (vr G a1)]) hG hl kX10_readStatement rfl (Nat.le_of_ble_eq_true rfl) rfl rfl rfl rfl rfl (fun X eG el hX => ?_)
  subst eG; subst el
  unfold f_X10_readStatement at h
  refine x_aloadn hX dX10_readStatement_0 rfl ?_
  refine x_ldcS (k' := 1) hX dX10_readStatement_1 rfl ?_
  obtain ⟨r_1, er_1, h⟩ := cl1_of h
  refine x_callVi (t := 9) (As := [vsz (xG X) 1]) (rest := []) hX dX10_readStatement_3 (c_X10_isWord (gk hX) (gl hX) hs rfl M _ er_1) kX10_isWord vX10_isWord w_797 (st38 hs) rfl rfl rfl rfl (Nat.le_of_ble_eq_true rfl) z0 ?_
  refine x_if_eq (tgt := 15) hX dX10_readStatement_6 (by decide) rfl (fun hc => ?_) (fun hc => ?_)
  · replace h := (if_pos hc).symm.trans h
    refine x_aloadn hX dX10_readStatement_15 rfl ?_
    refine x_ldcS (k' := 2) hX dX10_readStatement_16 rfl ?_
    obtain ⟨r_3, er_3, h⟩ := cl1_of h
    refine x_callVi (t := 9) (As := [vsz (xG X) 2]) (rest := []) hX dX10_readStatement_18 (c_X10_isWord (gk hX) (gl hX) hs rfl M _ er_3) kX10_isWord vX10_isWord w_797 (st38 hs) rfl rfl rfl rfl (Nat.le_of_ble_eq_true rfl) z0 ?_
    refine x_if_eq (tgt := 30) hX dX10_readStatement_21 (by decide) rfl (fun hc => ?_) (fun hc => ?_)
    · replace h := (if_pos hc).symm.trans h
      refine x_aloadn hX dX10_readStatement_30 rfl ?_
      refine x_ldcS (k' := 4) hX dX10_readStatement_31 rfl ?_
      obtain ⟨r_5, er_5, h⟩ := cl1_of h
      refine x_callVi (t := 9) (As := [vsz (xG X) 4]) (rest := []) hX dX10_readStatement_33 (c_X10_isWord (gk hX) (gl hX) hs rfl M _ er_5) kX10_isWord vX10_isWord w_797 (st38 hs) rfl rfl rfl rfl (Nat.le_of_ble_eq_true rfl) z0 ?_
      refine x_if_eq (tgt := 48) hX dX10_readStatement_36 (by decide) rfl (fun hc => ?_) (fun hc => ?_)
      · replace h := (if_pos hc).symm.trans h
        refine x_aloadn hX dX10_readStatement_48 rfl ?_
        refine x_ldcS (k' := 5) hX dX10_readStatement_49 rfl ?_
        obtain ⟨r_7, er_7, h⟩ := cl1_of h
        refine x_callVi (t := 9) (As := [vsz (xG X) 5]) (rest := []) hX dX10_readStatement_51 (c_X10_isWord (gk hX) (gl hX) hs rfl M _ er_7) kX10_isWord vX10_isWord w_797 (st38 hs) rfl rfl rfl rfl (Nat.le_of_ble_eq_true rfl) z0 ?_
        refine x_if_eq (tgt := 66) hX dX10_readStatement_54 (by decide) rfl (fun hc => ?_) (fun hc => ?_)
        · replace h := (if_pos hc).symm.trans h
          refine x_aloadn hX dX10_readStatement_66 rfl ?_
          refine x_ldcS (k' := 6) hX dX10_readStatement_67 rfl ?_
          obtain ⟨r_9, er_9, h⟩ := cl1_of h
          refine x_callVi (t := 9) (As := [vsz (xG X) 6]) (rest := []) hX dX10_readStatement_69 (c_X10_isWord (gk hX) (gl hX) hs rfl M _ er_9) kX10_isWord vX10_isWord w_797 (st38 hs) rfl rfl rfl rfl (Nat.le_of_ble_eq_true rfl) z0 ?_
          refine x_if_eq (tgt := 84) hX dX10_readStatement_72 (by decide) rfl (fun hc => ?_) (fun hc => ?_)
          · replace h := (if_pos hc).symm.trans h
            refine x_aloadn hX dX10_readStatement_84 rfl ?_
            refine x_ldcS (k' := 7) hX dX10_readStatement_85 rfl ?_
            obtain ⟨r_11, er_11, h⟩ := cl1_of h
            refine x_callVi (t := 9) (As := [vsz (xG X) 7]) (rest := []) hX dX10_readStatement_87 (c_X10_isWord (gk hX) (gl hX) hs rfl M _ er_11) kX10_isWord vX10_isWord w_797 (st38 hs) rfl rfl rfl rfl (Nat.le_of_ble_eq_true rfl) z0 ?_
            refine x_if_eq (tgt := 102) hX dX10_readStatement_90 (by decide) rfl (fun hc => ?_) (fun hc => ?_)
            · replace h := (if_pos hc).symm.trans h
              refine x_aloadn hX dX10_readStatement_102 rfl ?_
              refine x_iconst hX dX10_readStatement_103 ?_
              obtain ⟨r_13, M_14, er_13, h⟩ := cl2_of h
              refine x_callVi (t := 9) (As := [vi 1]) (rest := []) hX dX10_readStatement_104 (c_X10_fail (gk hX) (gl hX) hs 1 M _ _ er_13) kX10_fail vX10_fail w_849 (st38 hs) rfl rfl rfl rfl (Nat.le_of_ble_eq_true rfl) z0 ?_
              obtain ⟨b_15, h⟩ := gz_of h
              cases h
              exact x_zret hX dX10_readStatement_107 b_15 rfl
            · replace h := (if_neg hc).symm.trans h
              refine x_aloadn hX dX10_readStatement_93 rfl ?_
              refine x_aloadn hX dX10_readStatement_94 rfl ?_
              refine x_getRj (j := a1 + 1) hX dX10_readStatement_95 fl_X10_33 rfl h1 rfl ?_
              obtain ⟨r_16, M_17, er_16, h⟩ := cl2_of h
              refine x_callVi (t := 9) (As := [vr (xG X) (a1 + 1)]) (rest := []) hX dX10_readStatement_98 (c_X10_readPolicy (gk hX) (gl hX) hs (fo_1_0 (gk hX) h1) M _ _ er_16) kX10_readPolicy vX10_readPolicy w_914 (st38 hs) rfl rfl rfl rfl (Nat.le_of_ble_eq_true rfl) z0 ?_
              obtain ⟨b_18, h⟩ := gz_of h
              cases h
              exact x_zret hX dX10_readStatement_101 b_18 rfl
          · replace h := (if_neg hc).symm.trans h
            refine x_aloadn hX dX10_readStatement_75 rfl ?_
            refine x_aloadn hX dX10_readStatement_76 rfl ?_
            refine x_getRj (j := a1 + 1) hX dX10_readStatement_77 fl_X10_33 rfl h1 rfl ?_
            obtain ⟨r_19, M_20, er_19, h⟩ := cl2_of h
            refine x_callVi (t := 9) (As := [vr (xG X) (a1 + 1)]) (rest := []) hX dX10_readStatement_80 (c_X10_readTimes (gk hX) (gl hX) hs (fo_1_0 (gk hX) h1) M _ _ er_19) kX10_readTimes vX10_readTimes w_909 (st38 hs) rfl rfl rfl rfl (Nat.le_of_ble_eq_true rfl) z0 ?_
            obtain ⟨b_21, h⟩ := gz_of h
            cases h
            exact x_zret hX dX10_readStatement_83 b_21 rfl
        · replace h := (if_neg hc).symm.trans h
          refine x_aloadn hX dX10_readStatement_57 rfl ?_
          refine x_aloadn hX dX10_readStatement_58 rfl ?_
          refine x_getRj (j := a1 + 1) hX dX10_readStatement_59 fl_X10_33 rfl h1 rfl ?_
          obtain ⟨r_22, M_23, er_22, h⟩ := cl2_of h
          refine x_callVi (t := 9) (As := [vr (xG X) (a1 + 1)]) (rest := []) hX dX10_readStatement_62 (c_X10_readBuffer (gk hX) (gl hX) hs (fo_1_0 (gk hX) h1) M _ _ er_22) kX10_readBuffer vX10_readBuffer w_904 (st38 hs) rfl rfl rfl rfl (Nat.le_of_ble_eq_true rfl) z0 ?_
          obtain ⟨b_24, h⟩ := gz_of h
          cases h
          exact x_zret hX dX10_readStatement_65 b_24 rfl
      · replace h := (if_neg hc).symm.trans h
        refine x_aloadn hX dX10_readStatement_39 rfl ?_
        refine x_aloadn hX dX10_readStatement_40 rfl ?_
        refine x_getRj (j := a1 + 1) hX dX10_readStatement_41 fl_X10_33 rfl h1 rfl ?_
        obtain ⟨r_25, M_26, er_25, h⟩ := cl2_of h
        refine x_callVi (t := 9) (As := [vr (xG X) (a1 + 1)]) (rest := []) hX dX10_readStatement_44 (c_X10_readZones (gk hX) (gl hX) hs (fo_1_0 (gk hX) h1) M _ _ er_25) kX10_readZones vX10_readZones w_898 (st38 hs) rfl rfl rfl rfl (Nat.le_of_ble_eq_true rfl) z0 ?_
        obtain ⟨b_27, h⟩ := gz_of h
        cases h
        exact x_zret hX dX10_readStatement_47 b_27 rfl
    · replace h := (if_neg hc).symm.trans h
      refine x_aloadn hX dX10_readStatement_24 rfl ?_
      refine x_aloadn hX dX10_readStatement_25 rfl ?_
      obtain ⟨r_28, M_29, er_28, h⟩ := cl2_of h
      refine x_callVi (t := 9) (As := [vr (xG X) a1]) (rest := []) hX dX10_readStatement_26 (c_X10_readOrder (gk hX) (gl hX) hs h1 M _ _ er_28) kX10_readOrder vX10_readOrder w_880 (st38 hs) rfl rfl rfl rfl (Nat.le_of_ble_eq_true rfl) z0 ?_
      obtain ⟨b_30, h⟩ := gz_of h
      cases h
      exact x_zret hX dX10_readStatement_29 b_30 rfl
  · replace h := (if_neg hc).symm.trans h
    refine x_aloadn hX dX10_readStatement_9 rfl ?_
    refine x_aloadn hX dX10_readStatement_10 rfl ?_
    obtain ⟨r_31, M_32, er_31, h⟩ := cl2_of h
    refine x_callVi (t := 9) (As := [vr (xG X) a1]) (rest := []) hX dX10_readStatement_11 (c_X10_readItem (gk hX) (gl hX) hs h1 M _ _ er_31) kX10_readItem vX10_readItem w_871 (st38 hs) rfl rfl rfl rfl (Nat.le_of_ble_eq_true rfl) z0 ?_
    obtain ⟨b_33, h⟩ := gz_of h
    cases h
    exact x_zret hX dX10_readStatement_14 b_33 rfl
set_option maxRecDepth 100000 in
set_option maxHeartbeats 4000000 in
theorem ts_X10_readInto_34 {X : Cxt} (hX : Gd X RX10 cX10_readInto 3 (some .boolean) 8) (hs : SOK (xG X)) {a1 : Nat} (h1 : at_ (xG X) a1 11 0) (x2 : Int) (M : Mem) {Q : State → Prop} (o : (Int × Mem) ⊕ ((Mem) ⊕ (Int × Mem))) (h : s_X10_readInto_34 a1 x2 M = some o) (hP : ∀ y, o = .inl y → V X 0 0 Q 34 [some (vr (xG X) 38), some (vr (xG X) a1), some (vi y.1)] [] y.2) (hE : ∀ z, o = .inr (.inl z) → V X 0 0 Q 70 [none, none, none] [] z) (hR : ∀ q, o = .inr (.inr q) → Q = Qn X (some (vi q.1)) q.2) : V X 0 0 Q 34 [some (vr (xG X) 38), some (vr (xG X) a1), some (vi x2)] [] M := by
  unfold s_X10_readInto_34 at h
  refine x_iloadn hX dX10_readInto_34 rfl ?_
  refine x_sipush hX dX10_readInto_35 sp_600 ?_
  refine x_icmp_gt (tgt := 70) hX dX10_readInto_38 (by decide) rfl cw_600 (fun hc => ?_) (fun hc => ?_)
  · replace h := (if_pos hc).symm.trans h
    exact x_weak [false, false, false] rfl (hE M (Option.some.inj h).symm)
  · replace h := (if_neg hc).symm.trans h
    refine x_aloadn hX dX10_readInto_41 rfl ?_
    obtain ⟨M_9, er_8, h⟩ := cl1_of h
    refine x_callVv (t := 9) (As := []) (rest := []) hX dX10_readInto_42 (c_X10_nextToken (gk hX) (gl hX) hs M _ er_8) kX10_nextToken vX10_nextToken w_783 (st38 hs) rfl rfl rfl rfl (Nat.le_of_ble_eq_true rfl) z0 ?_
    refine x_aloadn hX dX10_readInto_45 rfl ?_
    refine x_getI hX dX10_readInto_46 fl_X10_44 rfl (st38 hs) ?_
    refine x_if_ne (tgt := 54) hX dX10_readInto_49 (by decide) rfl (fun hc => ?_) (fun hc => ?_)
    · replace h := (if_pos hc).symm.trans h
      refine x_iconst hX dX10_readInto_52 ?_
      exact x_qeq (hR (1, M_9) (Option.some.inj h).symm) (x_zret hX dX10_readInto_53 (Or.inr cw_1) rfl)
    · replace h := (if_neg hc).symm.trans h
      refine x_aloadn hX dX10_readInto_54 rfl ?_
      refine x_aloadn hX dX10_readInto_55 rfl ?_
      obtain ⟨r_10, M_11, er_10, h⟩ := cl2_of h
      refine x_callVi (t := 9) (As := [vr (xG X) a1]) (rest := []) hX dX10_readInto_56 (c_X10_readStatement (gk hX) (gl hX) hs h1 M_9 _ _ er_10) kX10_readStatement vX10_readStatement w_866 (st38 hs) rfl rfl rfl rfl (Nat.le_of_ble_eq_true rfl) z0 ?_
      refine x_if_ne (tgt := 64) hX dX10_readInto_59 (by decide) rfl (fun hc => ?_) (fun hc => ?_)
      · replace h := (if_pos hc).symm.trans h
        refine x_iconst hX dX10_readInto_62 ?_
        exact x_qeq (hR (0, M_11) (Option.some.inj h).symm) (x_zret hX dX10_readInto_63 (Or.inl cw_0) rfl)
      · replace h := (if_neg hc).symm.trans h
        obtain ⟨x2_12, ex2_12, h⟩ := bnd_of h
        refine x_iinc (ls' := [some (vr (xG X) 38), some (vr (xG X) a1), some (vi x2_12)]) hX dX10_readInto_64 rfl rfl ex2_12 rfl ?_
        refine x_goto (tgt := 34) hX dX10_readInto_67 (by decide) ?_
        exact x_weak [true, true, true] rfl (hP (x2_12, M_11) (Option.some.inj h).symm)
set_option maxRecDepth 100000 in
set_option maxHeartbeats 4000000 in
theorem c_X10_readInto {l : Launch} {G : Gx} (hG : GOK G) (hl : l.stackTraces = false) (hs : SOK G) {a1 : Nat} (h1 : at_ G a1 11 0) (M : Mem) (r : Int) (Mr : Mem) (h : f_X10_readInto a1 M = some (r, Mr)) : Cn l G mX10_readInto 8 [vr G 38, vr G a1] M (some (vi r)) Mr := by
  refine Cn_of2 (ls := [some (vr G 38), some (vr G a1), none]) hG hl kX10_readInto rfl (Nat.le_of_ble_eq_true rfl) rfl rfl rfl rfl rfl (fun X eG el hX => ?_)
  subst eG; subst el
  unfold f_X10_readInto at h
  refine x_aloadn hX dX10_readInto_0 rfl ?_
  refine x_iconst hX dX10_readInto_1 ?_
  obtain ⟨M_1, eM_1, h⟩ := bnd_of h
  refine x_putI hX dX10_readInto_2 fp_X10_22 rfl (st38 hs) (x_meq eM_1 ?_)
  refine x_aloadn hX dX10_readInto_5 rfl ?_
  refine x_iconst hX dX10_readInto_6 ?_
  obtain ⟨M_2, eM_2, h⟩ := bnd_of h
  refine x_putI hX dX10_readInto_7 fp_X10_15 rfl (st38 hs) (x_meq eM_2 ?_)
  refine x_aloadn hX dX10_readInto_10 rfl ?_
  refine x_iconst hX dX10_readInto_11 ?_
  obtain ⟨M_3, eM_3, h⟩ := bnd_of h
  refine x_putI hX dX10_readInto_12 fp_X10_25 rfl (st38 hs) (x_meq eM_3 ?_)
  refine x_aloadn hX dX10_readInto_15 rfl ?_
  obtain ⟨M_5, er_4, h⟩ := cl1_of h
  refine x_callVv (t := 1) (As := []) (rest := []) hX dX10_readInto_16 (c_X1_reset (gk hX) (gl hX) h1 M_3 _ er_4) kX1_reset vX1_reset w_775 h1 rfl rfl rfl rfl (Nat.le_of_ble_eq_true rfl) z0 ?_
  refine x_aloadn hX dX10_readInto_19 rfl ?_
  refine x_aloadn hX dX10_readInto_20 rfl ?_
  refine x_getRj (j := a1 + 1) hX dX10_readInto_21 fl_X10_33 rfl h1 rfl ?_
  obtain ⟨r_6, M_7, er_6, h⟩ := cl2_of h
  refine x_callVi (t := 9) (As := [vr (xG X) (a1 + 1)]) (rest := []) hX dX10_readInto_24 (c_X10_readHall (gk hX) (gl hX) hs (fo_1_0 (gk hX) h1) M_5 _ _ er_6) kX10_readHall vX10_readHall w_779 (st38 hs) rfl rfl rfl rfl (Nat.le_of_ble_eq_true rfl) z0 ?_
  refine x_if_ne (tgt := 32) hX dX10_readInto_27 (by decide) rfl (fun hc => ?_) (fun hc => ?_)
  · replace h := (if_pos hc).symm.trans h
    refine x_iconst hX dX10_readInto_30 ?_
    cases h
    exact x_zret hX dX10_readInto_31 (Or.inl cw_0) rfl
  · replace h := (if_neg hc).symm.trans h
    refine x_iconst hX dX10_readInto_32 ?_
    refine x_istoren (ls' := [some (vr (xG X) 38), some (vr (xG X) a1), some (vi 0)]) hX dX10_readInto_33 rfl rfl rfl ?_
    refine x_weak (ls' := [some (vr (xG X) 38), some (vr (xG X) a1), some (vi 0)]) [true, true, true] rfl ?_
    refine lp_use (x := (0, M_7)) (P := fun x => V X 0 0 (Qn X (some (vi r)) Mr) 34 [some (vr (xG X) 38), some (vr (xG X) a1), some (vi x.1)] [] x.2) (PE := fun z_13 => V X 0 0 (Qn X (some (vi r)) Mr) 70 [none, none, none] [] z_13) (PR := fun q => (Qn X (some (vi r)) Mr) = Qn X (some (vi q.1)) q.2) h (fun x o hh hP hE hR => ts_X10_readInto_34 hX hs h1 x.1 x.2 o hh hP hE hR) (fun z_13 h => ?_) (fun q h => ?_)
    · show V X 0 0 (Qn X (some (vi r)) Mr) 70 [none, none, none] [] z_13
      refine x_iconst hX dX10_readInto_70 ?_
      cases h
      exact x_zret hX dX10_readInto_71 (Or.inl cw_0) rfl
    · cases h; rfl
set_option maxRecDepth 100000 in
set_option maxHeartbeats 4000000 in
theorem c_X11_load {l : Launch} {G : Gx} (hG : GOK G) (hl : l.stackTraces = false) (hs : SOK G)  (M : Mem) (r : Int) (Mr : Mem) (h : f_X11_load M = some (r, Mr)) : Cn l G mX11_load 9 [vr G 0] M (some (vi r)) Mr := by
  refine Cn_of2 (ls := [some (vr G 0), none]) hG hl kX11_load rfl (Nat.le_of_ble_eq_true rfl) rfl rfl rfl rfl rfl (fun X eG el hX => ?_)
  subst eG; subst el
  unfold f_X11_load at h
  refine x_aloadn hX dX11_load_0 rfl ?_
  refine x_getRj (j := 38) hX dX11_load_1 fl_X11_26 rfl (st0 hs) rfl ?_
  refine x_aloadn hX dX11_load_4 rfl ?_
  refine x_getRj (j := 19) hX dX11_load_5 fl_X11_16 rfl (st0 hs) rfl ?_
  obtain ⟨r_1, M_2, er_1, h⟩ := cl2_of h
  refine x_callVi (t := 9) (As := [vr (xG X) 19]) (rest := []) hX dX11_load_8 (c_X10_readInto (gk hX) (gl hX) hs (st19 hs) M _ _ er_1) kX10_readInto vX10_readInto w_771 (st38 hs) rfl rfl rfl rfl (Nat.le_of_ble_eq_true rfl) z0 ?_
  refine x_istoren (ls' := [some (vr (xG X) 0), some (vi r_1)]) hX dX11_load_11 rfl rfl rfl ?_
  refine x_aloadn hX dX11_load_12 rfl ?_
  refine x_getRj (j := 38) hX dX11_load_13 fl_X11_26 rfl (st0 hs) rfl ?_
  refine x_iconst hX dX11_load_16 ?_
  obtain ⟨M_3, eM_3, h⟩ := bnd_of h
  refine x_putI hX dX11_load_17 fp_X11_330 rfl (st38 hs) (x_meq eM_3 ?_)
  refine x_iloadn hX dX11_load_20 rfl ?_
  refine x_if_ne (tgt := 26) hX dX11_load_21 (by decide) rfl (fun hc => ?_) (fun hc => ?_)
  · replace h := (if_pos hc).symm.trans h
    refine x_iconst hX dX11_load_24 ?_
    cases h
    exact x_iret hX dX11_load_25 rfl
  · replace h := (if_neg hc).symm.trans h
    refine x_aloadn hX dX11_load_26 rfl ?_
    refine x_getRj (j := 1) hX dX11_load_27 fl_X11_10 rfl (st0 hs) rfl ?_
    refine x_aloadn hX dX11_load_30 rfl ?_
    refine x_getRj (j := 19) hX dX11_load_31 fl_X11_16 rfl (st0 hs) rfl ?_
    obtain ⟨M_5, er_4, h⟩ := cl1_of h
    refine x_callVv (t := 1) (As := [vr (xG X) 19]) (rest := []) hX dX11_load_34 (c_X1_copyFrom (gk hX) (gl hX) (st1 hs) (st19 hs) M_3 _ er_4) kX1_copyFrom vX1_copyFrom w_922 (st1 hs) rfl rfl rfl rfl (Nat.le_of_ble_eq_true rfl) z0 ?_
    refine x_aloadn hX dX11_load_37 rfl ?_
    refine x_getRj (j := 1) hX dX11_load_38 fl_X11_10 rfl (st0 hs) rfl ?_
    refine x_getRj (j := 10) hX dX11_load_41 fl_X11_118 rfl (st1 hs) rfl ?_
    refine x_getI hX dX11_load_44 fl_X11_146 rfl (st10 hs) ?_
    cases h
    exact x_iret hX dX11_load_47 rfl
