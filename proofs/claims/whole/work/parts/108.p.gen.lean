-- written by wip/gen/emit.py: X11_savedDistance, X11_workTime, X4_measureBatches, X4_tryMoves, X6_listStops, X7_runAll, X10_isWord, X11_stopItem, X11_startTime, X11_leaveTime, X11_blockedTime, X11_makespan, X11_lateness
set_option maxRecDepth 100000 in
set_option maxHeartbeats 4000000 in
theorem ts_X11_savedDistance_4 {X : Cxt} (hX : Gd X RX11 cX11_savedDistance 3 (some .int) 5) (hs : SOK (xG X))  (x1 : Int) (x2 : Int) (M : Mem) {Q : State → Prop} (o : (Int × Int × Mem) ⊕ ((Int × Mem) ⊕ (Int × Mem))) (h : s_X11_savedDistance_4 x1 x2 M = some o) (hP : ∀ y, o = .inl y → V X 0 0 Q 4 [some (vr (xG X) 0), some (vi y.1), some (vi y.2.1)] [] y.2.2) (hE : ∀ z, o = .inr (.inl z) → V X 0 0 Q 60 [some (vr (xG X) 0), some (vi z.1), none] [] z.2) (hR : ∀ q, o = .inr (.inr q) → Q = Qn X (some (vi q.1)) q.2) : V X 0 0 Q 4 [some (vr (xG X) 0), some (vi x1), some (vi x2)] [] M := by
  unfold s_X11_savedDistance_4 at h
  refine x_iloadn hX dX11_savedDistance_4 rfl ?_
  refine x_aloadn hX dX11_savedDistance_5 rfl ?_
  refine x_getRj (j := 1) hX dX11_savedDistance_6 fl_X11_10 rfl (st0 hs) rfl ?_
  refine x_getRj (j := 17) hX dX11_savedDistance_9 fl_X11_159 rfl (st1 hs) rfl ?_
  refine x_getI hX dX11_savedDistance_12 fl_X11_168 rfl (st17 hs) ?_
  refine x_icmp_ge (tgt := 60) hX dX11_savedDistance_15 (by decide) rfl rfl (fun hc => ?_) (fun hc => ?_)
  · replace h := (if_pos hc).symm.trans h
    refine x_iloadn hX dX11_savedDistance_18 rfl ?_
    refine x_aloadn hX dX11_savedDistance_19 rfl ?_
    refine x_getRj (j := 40) hX dX11_savedDistance_20 fl_X11_33 rfl (st0 hs) rfl ?_
    refine x_aloadn hX dX11_savedDistance_23 rfl ?_
    refine x_getRj (j := 1) hX dX11_savedDistance_24 fl_X11_10 rfl (st0 hs) rfl ?_
    refine x_aloadn hX dX11_savedDistance_27 rfl ?_
    refine x_getRj (j := 1) hX dX11_savedDistance_28 fl_X11_10 rfl (st0 hs) rfl ?_
    refine x_getRj (j := 17) hX dX11_savedDistance_31 fl_X11_159 rfl (st1 hs) rfl ?_
    refine x_getRj (j := 18) hX dX11_savedDistance_34 fl_X11_195 rfl (st17 hs) rfl ?_
    refine x_iloadn hX dX11_savedDistance_37 rfl ?_
    obtain ⟨b_1, h⟩ := gi_of h
    refine x_iald hX dX11_savedDistance_38 (st18 hs) b_1 rfl ?_
    refine x_aloadn hX dX11_savedDistance_39 rfl ?_
    refine x_getRj (j := 1) hX dX11_savedDistance_40 fl_X11_10 rfl (st0 hs) rfl ?_
    refine x_getRj (j := 2) hX dX11_savedDistance_43 fl_X11_79 rfl (st1 hs) rfl ?_
    refine x_getI hX dX11_savedDistance_46 fl_X11_220 rfl (st2 hs) ?_
    obtain ⟨r_2, M_3, er_2, h⟩ := cl2_of h
    refine x_callVi (t := 6) (As := [vr (xG X) 1, vi (M 18 (ix x2)), vi (M 2 5)]) (rest := [vi x1]) hX dX11_savedDistance_49 (c_X6_lengthFor (gk hX) (gl hX) (st40 hs) (st1 hs) (M 18 (ix x2)) (M 2 5) M _ _ er_2) kX6_lengthFor vX6_lengthFor w_604 (st40 hs) rfl rfl rfl rfl (Nat.le_of_ble_eq_true rfl) z0 ?_
    refine x_isub hX dX11_savedDistance_52 ?_
    obtain ⟨x1_4, ex1_4, h⟩ := bnd_of h
    refine x_istoren (ls' := [some (vr (xG X) 0), some (vi x1_4), some (vi x2)]) hX dX11_savedDistance_53 rfl ex1_4 rfl ?_
    obtain ⟨x2_5, ex2_5, h⟩ := bnd_of h
    refine x_iinc (ls' := [some (vr (xG X) 0), some (vi x1_4), some (vi x2_5)]) hX dX11_savedDistance_54 rfl rfl ex2_5 rfl ?_
    refine x_goto (tgt := 4) hX dX11_savedDistance_57 (by decide) ?_
    exact x_weak [true, true, true] rfl (hP (x1_4, x2_5, M_3) (Option.some.inj h).symm)
  · replace h := (if_neg hc).symm.trans h
    exact x_weak [true, true, false] rfl (hE (x1, M) (Option.some.inj h).symm)
set_option maxRecDepth 100000 in
set_option maxHeartbeats 4000000 in
theorem tj_X11_savedDistance_119_62 {X : Cxt} (hX : Gd X RX11 cX11_savedDistance 3 (some .int) 5) (hs : SOK (xG X))   (x1 : Int) (x2 : Int) (M : Mem) {Q : State → Prop} (o : (Int × Int × Mem) ⊕ ((Int × Mem) ⊕ (Int × Mem))) (h : j_X11_savedDistance_119_62 x1 x2 M = some o) (hP : ∀ y, o = .inl y → V X 0 0 Q 62 [some (vr (xG X) 0), some (vi y.1), some (vi y.2.1)] [] y.2.2) (hE : ∀ z, o = .inr (.inl z) → V X 0 0 Q 125 [none, some (vi z.1), none] [] z.2) (hR : ∀ q, o = .inr (.inr q) → Q = Qn X (some (vi q.1)) q.2) : V X 0 0 Q 119 [some (vr (xG X) 0), some (vi x1), some (vi x2)] [] M := by
  unfold j_X11_savedDistance_119_62 at h
  obtain ⟨x2_11, ex2_11, h⟩ := bnd_of h
  refine x_iinc (ls' := [some (vr (xG X) 0), some (vi x1), some (vi x2_11)]) hX dX11_savedDistance_119 rfl rfl ex2_11 rfl ?_
  refine x_goto (tgt := 62) hX dX11_savedDistance_122 (by decide) ?_
  exact x_weak [true, true, true] rfl (hP (x1, x2_11, M) (Option.some.inj h).symm)
set_option maxRecDepth 100000 in
set_option maxHeartbeats 4000000 in
theorem ts_X11_savedDistance_62 {X : Cxt} (hX : Gd X RX11 cX11_savedDistance 3 (some .int) 5) (hs : SOK (xG X))  (x1 : Int) (x2 : Int) (M : Mem) {Q : State → Prop} (o : (Int × Int × Mem) ⊕ ((Int × Mem) ⊕ (Int × Mem))) (h : s_X11_savedDistance_62 x1 x2 M = some o) (hP : ∀ y, o = .inl y → V X 0 0 Q 62 [some (vr (xG X) 0), some (vi y.1), some (vi y.2.1)] [] y.2.2) (hE : ∀ z, o = .inr (.inl z) → V X 0 0 Q 125 [none, some (vi z.1), none] [] z.2) (hR : ∀ q, o = .inr (.inr q) → Q = Qn X (some (vi q.1)) q.2) : V X 0 0 Q 62 [some (vr (xG X) 0), some (vi x1), some (vi x2)] [] M := by
  unfold s_X11_savedDistance_62 at h
  refine x_iloadn hX dX11_savedDistance_62 rfl ?_
  refine x_aloadn hX dX11_savedDistance_63 rfl ?_
  refine x_getRj (j := 1) hX dX11_savedDistance_64 fl_X11_10 rfl (st0 hs) rfl ?_
  refine x_getRj (j := 10) hX dX11_savedDistance_67 fl_X11_118 rfl (st1 hs) rfl ?_
  refine x_getI hX dX11_savedDistance_70 fl_X11_146 rfl (st10 hs) ?_
  refine x_icmp_ge (tgt := 125) hX dX11_savedDistance_73 (by decide) rfl rfl (fun hc => ?_) (fun hc => ?_)
  · replace h := (if_pos hc).symm.trans h
    refine x_aloadn hX dX11_savedDistance_76 rfl ?_
    refine x_getRj (j := 1) hX dX11_savedDistance_77 fl_X11_10 rfl (st0 hs) rfl ?_
    refine x_getRj (j := 10) hX dX11_savedDistance_80 fl_X11_118 rfl (st1 hs) rfl ?_
    refine x_getRj (j := 12) hX dX11_savedDistance_83 fl_X11_130 rfl (st10 hs) rfl ?_
    refine x_iloadn hX dX11_savedDistance_86 rfl ?_
    obtain ⟨b_7, h⟩ := gi_of h
    refine x_iald hX dX11_savedDistance_87 (st12 hs) b_7 rfl ?_
    refine x_iconst hX dX11_savedDistance_88 ?_
    refine x_icmp_ne (tgt := 119) hX dX11_savedDistance_89 (by decide) rfl cw_1 (fun hc => ?_) (fun hc => ?_)
    · replace h := (if_pos hc).symm.trans h
      refine x_iloadn hX dX11_savedDistance_92 rfl ?_
      refine x_aloadn hX dX11_savedDistance_93 rfl ?_
      refine x_getRj (j := 40) hX dX11_savedDistance_94 fl_X11_33 rfl (st0 hs) rfl ?_
      refine x_aloadn hX dX11_savedDistance_97 rfl ?_
      refine x_getRj (j := 1) hX dX11_savedDistance_98 fl_X11_10 rfl (st0 hs) rfl ?_
      refine x_iconst hX dX11_savedDistance_101 ?_
      refine x_iloadn hX dX11_savedDistance_102 rfl ?_
      refine x_ishl hX dX11_savedDistance_103 ?_
      refine x_aloadn hX dX11_savedDistance_104 rfl ?_
      refine x_getRj (j := 1) hX dX11_savedDistance_105 fl_X11_10 rfl (st0 hs) rfl ?_
      refine x_getRj (j := 2) hX dX11_savedDistance_108 fl_X11_79 rfl (st1 hs) rfl ?_
      refine x_getI hX dX11_savedDistance_111 fl_X11_220 rfl (st2 hs) ?_
      obtain ⟨r_8, M_9, er_8, h⟩ := cl2_of h
      refine x_callVi (t := 6) (As := [vr (xG X) 1, vi (i_shl 1 x2), vi (M 2 5)]) (rest := [vi x1]) hX dX11_savedDistance_114 (c_X6_lengthFor (gk hX) (gl hX) (st40 hs) (st1 hs) (i_shl 1 x2) (M 2 5) M _ _ er_8) kX6_lengthFor vX6_lengthFor w_604 (st40 hs) rfl rfl rfl rfl (Nat.le_of_ble_eq_true rfl) z0 ?_
      refine x_iadd hX dX11_savedDistance_117 ?_
      obtain ⟨x1_10, ex1_10, h⟩ := bnd_of h
      refine x_istoren (ls' := [some (vr (xG X) 0), some (vi x1_10), some (vi x2)]) hX dX11_savedDistance_118 rfl ex1_10 rfl ?_
      exact x_weak [true, true, true] rfl (tj_X11_savedDistance_119_62 hX hs x1_10 x2 M_9 o h hP hE hR)
    · replace h := (if_neg hc).symm.trans h
      exact x_weak [true, true, true] rfl (tj_X11_savedDistance_119_62 hX hs x1 x2 M o h hP hE hR)
  · replace h := (if_neg hc).symm.trans h
    exact x_weak [false, true, false] rfl (hE (x1, M) (Option.some.inj h).symm)
set_option maxRecDepth 100000 in
set_option maxHeartbeats 4000000 in
theorem c_X11_savedDistance {l : Launch} {G : Gx} (hG : GOK G) (hl : l.stackTraces = false) (hs : SOK G)  (M : Mem) (r : Int) (Mr : Mem) (h : f_X11_savedDistance M = some (r, Mr)) : Cn l G mX11_savedDistance 5 [vr G 0] M (some (vi r)) Mr := by
  refine Cn_of2 (ls := [some (vr G 0), none, none]) hG hl kX11_savedDistance rfl (Nat.le_of_ble_eq_true rfl) rfl rfl rfl rfl rfl (fun X eG el hX => ?_)
  subst eG; subst el
  unfold f_X11_savedDistance at h
  refine x_iconst hX dX11_savedDistance_0 ?_
  refine x_istoren (ls' := [some (vr (xG X) 0), some (vi 0), none]) hX dX11_savedDistance_1 rfl rfl rfl ?_
  refine x_iconst hX dX11_savedDistance_2 ?_
  refine x_istoren (ls' := [some (vr (xG X) 0), some (vi 0), some (vi 0)]) hX dX11_savedDistance_3 rfl rfl rfl ?_
  refine x_weak (ls' := [some (vr (xG X) 0), some (vi 0), some (vi 0)]) [true, true, true] rfl ?_
  refine lp_use (x := (0, 0, M)) (P := fun x => V X 0 0 (Qn X (some (vi r)) Mr) 4 [some (vr (xG X) 0), some (vi x.1), some (vi x.2.1)] [] x.2.2) (PE := fun z_6 => V X 0 0 (Qn X (some (vi r)) Mr) 60 [some (vr (xG X) 0), some (vi z_6.1), none] [] z_6.2) (PR := fun q => (Qn X (some (vi r)) Mr) = Qn X (some (vi q.1)) q.2) h (fun x o hh hP hE hR => ts_X11_savedDistance_4 hX hs x.1 x.2.1 x.2.2 o hh hP hE hR) (fun z_6 h => ?_) (fun q h => ?_)
  · show V X 0 0 (Qn X (some (vi r)) Mr) 60 [some (vr (xG X) 0), some (vi z_6.1), none] [] z_6.2
    refine x_iconst hX dX11_savedDistance_60 ?_
    refine x_istoren (ls' := [some (vr (xG X) 0), some (vi z_6.1), some (vi 0)]) hX dX11_savedDistance_61 rfl rfl rfl ?_
    refine x_weak (ls' := [some (vr (xG X) 0), some (vi z_6.1), some (vi 0)]) [true, true, true] rfl ?_
    refine lp_use (x := (z_6.1, 0, z_6.2)) (P := fun x => V X 0 0 (Qn X (some (vi r)) Mr) 62 [some (vr (xG X) 0), some (vi x.1), some (vi x.2.1)] [] x.2.2) (PE := fun z_12 => V X 0 0 (Qn X (some (vi r)) Mr) 125 [none, some (vi z_12.1), none] [] z_12.2) (PR := fun q => (Qn X (some (vi r)) Mr) = Qn X (some (vi q.1)) q.2) h (fun x o hh hP hE hR => ts_X11_savedDistance_62 hX hs x.1 x.2.1 x.2.2 o hh hP hE hR) (fun z_12 h => ?_) (fun q h => ?_)
    · show V X 0 0 (Qn X (some (vi r)) Mr) 125 [none, some (vi z_12.1), none] [] z_12.2
      refine x_iloadn hX dX11_savedDistance_125 rfl ?_
      cases h
      exact x_iret hX dX11_savedDistance_126 rfl
    · cases h; rfl
  · cases h; rfl
set_option maxRecDepth 100000 in
set_option maxHeartbeats 4000000 in
theorem c_X11_workTime {l : Launch} {G : Gx} (hG : GOK G) (hl : l.stackTraces = false) (hs : SOK G)  (x1 : Int) (x2 : Int) (M : Mem) (r : Nat ⊕ Int) (Mr : Mem) (h : f_X11_workTime x1 x2 M = some (r, Mr)) : Cx l G mX11_workTime 5 2 12 [vr G 0, vi x1, vi x2] M (ovi r) Mr := by
  refine Cx_of2 (ls := [some (vr G 0), some (vi x1), some (vi x2)]) hG hl kX11_workTime rfl (Nat.le_of_ble_eq_true rfl) rfl rfl rfl rfl rfl (fun X eG el hX hN => ?_)
  subst eG; subst el
  unfold f_X11_workTime at h
  refine x_aloadn hX dX11_workTime_0 rfl ?_
  refine x_iloadn hX dX11_workTime_1 rfl ?_
  rcases cx1_of h with ⟨e_3, ee_3, h⟩ | ⟨r_1, er_1, h⟩
  · exact x_rs2 (f := ovi) h (x_xVt (t := 10) (As := [vi x1]) (rest := []) hX hN dX11_workTime_2 (c_X11_needBatch (gk hX) (gl hX) hs x1 M _ ee_3) kX11_needBatch vX11_needBatch w_1282 (st0 hs) rfl rfl rfl rfl (Nat.le_of_ble_eq_true rfl) (Nat.le_of_ble_eq_true rfl) (Nat.le_of_ble_eq_true rfl))
  · refine x_xVr (t := 10) (As := [vi x1]) (rest := []) hX dX11_workTime_2 (c_X11_needBatch (gk hX) (gl hX) hs x1 M _ er_1) kX11_needBatch vX11_needBatch w_1282 (st0 hs) rfl rfl rfl rfl (Nat.le_of_ble_eq_true rfl) (kf hN (a := 1) (b := 6) (Nat.le_of_ble_eq_true rfl) (Nat.le_of_ble_eq_true rfl)) ?_
    show V X 1 6 _ 5 [some (vr (xG X) 0), some (vi x1), some (vi x2)] [] M
    refine x_aloadn hX dX11_workTime_5 rfl ?_
    refine x_iloadn hX dX11_workTime_6 rfl ?_
    rcases cx1_of h with ⟨e_6, ee_6, h⟩ | ⟨r_4, er_4, h⟩
    · exact x_rs2 (f := ovi) h (x_xVt (t := 10) (As := [vi x2]) (rest := []) hX hN dX11_workTime_7 (c_X11_needZone (gk hX) (gl hX) hs x2 M _ ee_6) kX11_needZone vX11_needZone w_1424 (st0 hs) rfl rfl rfl rfl (Nat.le_of_ble_eq_true rfl) (Nat.le_of_ble_eq_true rfl) (Nat.le_of_ble_eq_true rfl))
    · refine x_xVr (t := 10) (As := [vi x2]) (rest := []) hX dX11_workTime_7 (c_X11_needZone (gk hX) (gl hX) hs x2 M _ er_4) kX11_needZone vX11_needZone w_1424 (st0 hs) rfl rfl rfl rfl (Nat.le_of_ble_eq_true rfl) (kf hN (a := 2) (b := 12) (Nat.le_of_ble_eq_true rfl) (Nat.le_of_ble_eq_true rfl)) ?_
      show V X 2 12 _ 10 [some (vr (xG X) 0), some (vi x1), some (vi x2)] [] M
      refine x_aloadn hX dX11_workTime_10 rfl ?_
      refine x_getRj (j := 49) hX dX11_workTime_11 fl_X11_40 rfl (st0 hs) rfl ?_
      refine x_aloadn hX dX11_workTime_14 rfl ?_
      refine x_getRj (j := 1) hX dX11_workTime_15 fl_X11_10 rfl (st0 hs) rfl ?_
      obtain ⟨M_8, er_7, h⟩ := cl1_of h
      refine x_callVv (t := 7) (As := [vr (xG X) 1]) (rest := []) hX dX11_workTime_18 (c_X7_measureWork (gk hX) (gl hX) (st49 hs) (st1 hs) M _ er_7) kX7_measureWork vX7_measureWork w_1502 (st49 hs) rfl rfl rfl rfl (Nat.le_of_ble_eq_true rfl) (kf hN (a := 2) (b := 12) (Nat.le_of_ble_eq_true rfl) (Nat.le_of_ble_eq_true rfl)) ?_
      refine x_aloadn hX dX11_workTime_21 rfl ?_
      refine x_getRj (j := 49) hX dX11_workTime_22 fl_X11_40 rfl (st0 hs) rfl ?_
      refine x_getRj (j := 50) hX dX11_workTime_25 fl_X11_271 rfl (st49 hs) rfl ?_
      refine x_iloadn hX dX11_workTime_28 rfl ?_
      obtain ⟨b_9, h⟩ := gi_of h
      refine x_aald2 hX dX11_workTime_29 (st50 hs) b_9 ?_
      refine x_iloadn hX dX11_workTime_30 rfl ?_
      obtain ⟨b_10, h⟩ := gi_of h
      refine x_iald hX dX11_workTime_31 (ro (gk hX) (st50 hs) b_9) b_10 rfl ?_
      cases h
      exact x_iretX hX dX11_workTime_32 (Nat.le_of_ble_eq_true rfl) (Nat.le_of_ble_eq_true rfl)
set_option maxRecDepth 100000 in
set_option maxHeartbeats 4000000 in
theorem ts_X4_measureBatches_2 {X : Cxt} (hX : Gd X RX4 cX4_measureBatches 3 (none) 5) (hs : SOK (xG X)) {a1 : Nat} (h1 : at_ (xG X) a1 11 0) (x2 : Int) (M : Mem) {Q : State → Prop} (o : (Int × Mem) ⊕ ((Mem) ⊕ (Mem))) (h : s_X4_measureBatches_2 a1 x2 M = some o) (hP : ∀ y, o = .inl y → V X 0 0 Q 2 [some (vr (xG X) 86), some (vr (xG X) a1), some (vi y.1)] [] y.2) (hE : ∀ z, o = .inr (.inl z) → V X 0 0 Q 49 [none, none, none] [] z) (hR : ∀ q, o = .inr (.inr q) → Q = Qn X none q) : V X 0 0 Q 2 [some (vr (xG X) 86), some (vr (xG X) a1), some (vi x2)] [] M := by
  unfold s_X4_measureBatches_2 at h
  refine x_iloadn hX dX4_measureBatches_2 rfl ?_
  refine x_aloadn hX dX4_measureBatches_3 rfl ?_
  refine x_getRj (j := a1 + 16) hX dX4_measureBatches_4 fl_X4_45 rfl h1 rfl ?_
  refine x_getI hX dX4_measureBatches_7 fl_X4_61 rfl (fo_1_3 (gk hX) h1) ?_
  refine x_icmp_ge (tgt := 49) hX dX4_measureBatches_10 (by decide) rfl rfl (fun hc => ?_) (fun hc => ?_)
  · replace h := (if_pos hc).symm.trans h
    refine x_aloadn hX dX4_measureBatches_13 rfl ?_
    refine x_getRj (j := 96) hX dX4_measureBatches_14 fl_X4_18 rfl (st86 hs) rfl ?_
    refine x_iloadn hX dX4_measureBatches_17 rfl ?_
    refine x_aloadn hX dX4_measureBatches_18 rfl ?_
    refine x_getRj (j := 87) hX dX4_measureBatches_19 fl_X4_12 rfl (st86 hs) rfl ?_
    refine x_aloadn hX dX4_measureBatches_22 rfl ?_
    refine x_aloadn hX dX4_measureBatches_23 rfl ?_
    refine x_getRj (j := a1 + 16) hX dX4_measureBatches_24 fl_X4_45 rfl h1 rfl ?_
    refine x_getRj (j := a1 + 16 + 1) hX dX4_measureBatches_27 fl_X4_62 rfl (fo_1_3 (gk hX) h1) rfl ?_
    refine x_iloadn hX dX4_measureBatches_30 rfl ?_
    obtain ⟨b_1, h⟩ := gi_of h
    refine x_iald hX dX4_measureBatches_31 (fo_0_1 (gk hX) (fo_1_3 (gk hX) h1)) b_1 rfl ?_
    refine x_aloadn hX dX4_measureBatches_32 rfl ?_
    refine x_getRj (j := a1 + 1) hX dX4_measureBatches_33 fl_X4_65 rfl h1 rfl ?_
    refine x_getI hX dX4_measureBatches_36 fl_X4_69 rfl (fo_1_0 (gk hX) h1) ?_
    obtain ⟨r_2, M_3, er_2, h⟩ := cl2_of h
    refine x_callVi (t := 6) (As := [vr (xG X) a1, vi (M (a1 + 16 + 1) (ix x2)), vi (M (a1 + 1) 5)]) (rest := [vi x2, vr (xG X) 96]) hX dX4_measureBatches_39 (c_X6_lengthFor (gk hX) (gl hX) (st87 hs) h1 (M (a1 + 16 + 1) (ix x2)) (M (a1 + 1) 5) M _ _ er_2) kX6_lengthFor vX6_lengthFor w_1318 (st87 hs) rfl rfl rfl rfl (Nat.le_of_ble_eq_true rfl) z0 ?_
    obtain ⟨b_5, h⟩ := gi_of h
    obtain ⟨M_4, eM_4, h⟩ := bnd_of h
    refine x_iast hX dX4_measureBatches_42 (st96 hs) b_5 rfl (x_meq eM_4 ?_)
    obtain ⟨x2_6, ex2_6, h⟩ := bnd_of h
    refine x_iinc (ls' := [some (vr (xG X) 86), some (vr (xG X) a1), some (vi x2_6)]) hX dX4_measureBatches_43 rfl rfl ex2_6 rfl ?_
    refine x_goto (tgt := 2) hX dX4_measureBatches_46 (by decide) ?_
    exact x_weak [true, true, true] rfl (hP (x2_6, M_4) (Option.some.inj h).symm)
  · replace h := (if_neg hc).symm.trans h
    exact x_weak [false, false, false] rfl (hE M (Option.some.inj h).symm)
set_option maxRecDepth 100000 in
set_option maxHeartbeats 4000000 in
theorem c_X4_measureBatches {l : Launch} {G : Gx} (hG : GOK G) (hl : l.stackTraces = false) (hs : SOK G) {a1 : Nat} (h1 : at_ G a1 11 0) (M : Mem) (Mr : Mem) (h : f_X4_measureBatches a1 M = some Mr) : Cn l G mX4_measureBatches 5 [vr G 86, vr G a1] M none Mr := by
  refine Cn_of2 (ls := [some (vr G 86), some (vr G a1), none]) hG hl kX4_measureBatches rfl (Nat.le_of_ble_eq_true rfl) rfl rfl rfl rfl rfl (fun X eG el hX => ?_)
  subst eG; subst el
  unfold f_X4_measureBatches at h
  refine x_iconst hX dX4_measureBatches_0 ?_
  refine x_istoren (ls' := [some (vr (xG X) 86), some (vr (xG X) a1), some (vi 0)]) hX dX4_measureBatches_1 rfl rfl rfl ?_
  refine x_weak (ls' := [some (vr (xG X) 86), some (vr (xG X) a1), some (vi 0)]) [true, true, true] rfl ?_
  refine lp_use (x := (0, M)) (P := fun x => V X 0 0 (Qn X none Mr) 2 [some (vr (xG X) 86), some (vr (xG X) a1), some (vi x.1)] [] x.2) (PE := fun z_7 => V X 0 0 (Qn X none Mr) 49 [none, none, none] [] z_7) (PR := fun q => (Qn X none Mr) = Qn X none q) h (fun x o hh hP hE hR => ts_X4_measureBatches_2 hX hs h1 x.1 x.2 o hh hP hE hR) (fun z_7 h => ?_) (fun q h => ?_)
  · show V X 0 0 (Qn X none Mr) 49 [none, none, none] [] z_7
    cases h
    exact x_vret hX dX4_measureBatches_49 rfl
  · cases h; rfl
set_option maxRecDepth 100000 in
set_option maxHeartbeats 4000000 in
theorem tj_X4_tryMoves_171_65 {X : Cxt} (hX : Gd X RX4 cX4_tryMoves 12 (none) 5) (hs : SOK (xG X)) {a1 : Nat} (h1 : at_ (xG X) a1 11 0)  (x2 : Int) (x3 : Int) (x4 : Int) (x5 : Int) (x7 : Int) (x8 : Int) (M : Mem) {Q : State → Prop} (o : (Int × Mem) ⊕ ((Mem) ⊕ (Mem))) (h : j_X4_tryMoves_171_65 a1 x2 x3 x4 x5 x7 x8 M = some o) (hP : ∀ y, o = .inl y → V X 0 0 Q 65 [some (vr (xG X) 86), some (vr (xG X) a1), some (vi x2), some (vi x3), some (vi x4), some (vi x5), none, some (vi x7), some (vi y.1), none, none, none] [] y.2) (hE : ∀ z, o = .inr (.inl z) → V X 0 0 Q 177 [none, none, none, none, none, none, none, none, none, none, none, none] [] z) (hR : ∀ q, o = .inr (.inr q) → Q = Qn X none q) : V X 0 0 Q 171 [some (vr (xG X) 86), some (vr (xG X) a1), some (vi x2), some (vi x3), some (vi x4), some (vi x5), none, some (vi x7), some (vi x8), none, none, none] [] M := by
  unfold j_X4_tryMoves_171_65 at h
  obtain ⟨x8_13, ex8_13, h⟩ := bnd_of h
  refine x_iinc (ls' := [some (vr (xG X) 86), some (vr (xG X) a1), some (vi x2), some (vi x3), some (vi x4), some (vi x5), none, some (vi x7), some (vi x8_13), none, none, none]) hX dX4_tryMoves_171 rfl rfl ex8_13 rfl ?_
  refine x_goto (tgt := 65) hX dX4_tryMoves_174 (by decide) ?_
  exact x_weak [true, true, true, true, true, true, false, true, true, false, false, false] rfl (hP (x8_13, M) (Option.some.inj h).symm)
set_option maxRecDepth 100000 in
set_option maxHeartbeats 4000000 in
theorem tj_X4_tryMoves_118_65 {X : Cxt} (hX : Gd X RX4 cX4_tryMoves 12 (none) 5) (hs : SOK (xG X)) {a1 : Nat} (h1 : at_ (xG X) a1 11 0)  (x2 : Int) (x3 : Int) (x4 : Int) (x5 : Int) (x7 : Int) (x8 : Int) (x9 : Int) (y0 : Int) (M : Mem) {Q : State → Prop} (o : (Int × Mem) ⊕ ((Mem) ⊕ (Mem))) (h : j_X4_tryMoves_118_65 a1 x2 x3 x4 x5 x7 x8 x9 y0 M = some o) (hP : ∀ y, o = .inl y → V X 0 0 Q 65 [some (vr (xG X) 86), some (vr (xG X) a1), some (vi x2), some (vi x3), some (vi x4), some (vi x5), none, some (vi x7), some (vi y.1), none, none, none] [] y.2) (hE : ∀ z, o = .inr (.inl z) → V X 0 0 Q 177 [none, none, none, none, none, none, none, none, none, none, none, none] [] z) (hR : ∀ q, o = .inr (.inr q) → Q = Qn X none q) : V X 0 0 Q 118 [some (vr (xG X) 86), some (vr (xG X) a1), some (vi x2), some (vi x3), some (vi x4), some (vi x5), none, some (vi x7), some (vi x8), some (vi x9), none, none] [vi y0] M := by
  unfold j_X4_tryMoves_118_65 at h
  refine x_istore (ls' := [some (vr (xG X) 86), some (vr (xG X) a1), some (vi x2), some (vi x3), some (vi x4), some (vi x5), none, some (vi x7), some (vi x8), some (vi x9), some (vi y0), none]) hX dX4_tryMoves_118 rfl rfl rfl ?_
  refine x_iload hX dX4_tryMoves_120 rfl ?_
  refine x_iload hX dX4_tryMoves_122 rfl ?_
  refine x_icmp_eq (tgt := 171) hX dX4_tryMoves_124 (by decide) rfl rfl (fun hc => ?_) (fun hc => ?_)
  · replace h := (if_pos hc).symm.trans h
    exact x_weak [true, true, true, true, true, true, false, true, true, false, false, false] rfl (tj_X4_tryMoves_171_65 hX hs h1 x2 x3 x4 x5 x7 x8 M o h hP hE hR)
  · replace h := (if_neg hc).symm.trans h
    refine x_iload hX dX4_tryMoves_127 rfl ?_
    refine x_if_eq (tgt := 171) hX dX4_tryMoves_129 (by decide) rfl (fun hc => ?_) (fun hc => ?_)
    · replace h := (if_pos hc).symm.trans h
      exact x_weak [true, true, true, true, true, true, false, true, true, false, false, false] rfl (tj_X4_tryMoves_171_65 hX hs h1 x2 x3 x4 x5 x7 x8 M o h hP hE hR)
    · replace h := (if_neg hc).symm.trans h
      refine x_aloadn hX dX4_tryMoves_132 rfl ?_
      refine x_getRj (j := 87) hX dX4_tryMoves_133 fl_X4_12 rfl (st86 hs) rfl ?_
      refine x_aloadn hX dX4_tryMoves_136 rfl ?_
      refine x_iload hX dX4_tryMoves_137 rfl ?_
      refine x_aloadn hX dX4_tryMoves_139 rfl ?_
      refine x_getRj (j := a1 + 1) hX dX4_tryMoves_140 fl_X4_65 rfl h1 rfl ?_
      refine x_getI hX dX4_tryMoves_143 fl_X4_69 rfl (fo_1_0 (gk hX) h1) ?_
      obtain ⟨r_14, M_15, er_14, h⟩ := cl2_of h
      refine x_callVi (t := 6) (As := [vr (xG X) a1, vi x9, vi (M (a1 + 1) 5)]) (rest := []) hX dX4_tryMoves_146 (c_X6_lengthFor (gk hX) (gl hX) (st87 hs) h1 x9 (M (a1 + 1) 5) M _ _ er_14) kX6_lengthFor vX6_lengthFor w_1318 (st87 hs) rfl rfl rfl rfl (Nat.le_of_ble_eq_true rfl) z0 ?_
      refine x_aloadn hX dX4_tryMoves_149 rfl ?_
      refine x_getRj (j := 96) hX dX4_tryMoves_150 fl_X4_18 rfl (st86 hs) rfl ?_
      refine x_iload hX dX4_tryMoves_153 rfl ?_
      obtain ⟨b_16, h⟩ := gi_of h
      refine x_iald hX dX4_tryMoves_155 (st96 hs) b_16 rfl ?_
      refine x_isub hX dX4_tryMoves_156 ?_
      obtain ⟨x11_17, ex11_17, h⟩ := bnd_of h
      refine x_istore (ls' := [some (vr (xG X) 86), some (vr (xG X) a1), some (vi x2), some (vi x3), some (vi x4), some (vi x5), none, some (vi x7), some (vi x8), some (vi x9), some (vi y0), some (vi x11_17)]) hX dX4_tryMoves_157 rfl ex11_17 rfl ?_
      refine x_aloadn hX dX4_tryMoves_159 rfl ?_
      refine x_iload hX dX4_tryMoves_160 rfl ?_
      refine x_iload hX dX4_tryMoves_162 rfl ?_
      refine x_isub hX dX4_tryMoves_164 ?_
      refine x_iloadn hX dX4_tryMoves_165 rfl ?_
      refine x_iload hX dX4_tryMoves_166 rfl ?_
      obtain ⟨M_19, er_18, h⟩ := cl1_of h
      refine x_callVv (t := 4) (As := [vi (x7 - x11_17), vi x2, vi x8]) (rest := []) hX dX4_tryMoves_168 (c_X4_keepBetter (gk hX) (gl hX) hs (x7 - x11_17) x2 x8 M_15 _ er_18) kX4_keepBetter vX4_keepBetter w_1326 (st86 hs) rfl rfl rfl rfl (Nat.le_of_ble_eq_true rfl) z0 ?_
      exact x_weak [true, true, true, true, true, true, false, true, true, false, false, false] rfl (tj_X4_tryMoves_171_65 hX hs h1 x2 x3 x4 x5 x7 x8 M_19 o h hP hE hR)
set_option maxRecDepth 100000 in
set_option maxHeartbeats 4000000 in
theorem tj_X4_tryMoves_117_65 {X : Cxt} (hX : Gd X RX4 cX4_tryMoves 12 (none) 5) (hs : SOK (xG X)) {a1 : Nat} (h1 : at_ (xG X) a1 11 0)  (x2 : Int) (x3 : Int) (x4 : Int) (x5 : Int) (x7 : Int) (x8 : Int) (x9 : Int) (M : Mem) {Q : State → Prop} (o : (Int × Mem) ⊕ ((Mem) ⊕ (Mem))) (h : j_X4_tryMoves_117_65 a1 x2 x3 x4 x5 x7 x8 x9 M = some o) (hP : ∀ y, o = .inl y → V X 0 0 Q 65 [some (vr (xG X) 86), some (vr (xG X) a1), some (vi x2), some (vi x3), some (vi x4), some (vi x5), none, some (vi x7), some (vi y.1), none, none, none] [] y.2) (hE : ∀ z, o = .inr (.inl z) → V X 0 0 Q 177 [none, none, none, none, none, none, none, none, none, none, none, none] [] z) (hR : ∀ q, o = .inr (.inr q) → Q = Qn X none q) : V X 0 0 Q 117 [some (vr (xG X) 86), some (vr (xG X) a1), some (vi x2), some (vi x3), some (vi x4), some (vi x5), none, some (vi x7), some (vi x8), some (vi x9), none, none] [] M := by
  unfold j_X4_tryMoves_117_65 at h
  refine x_iconst hX dX4_tryMoves_117 ?_
  exact x_weak [true, true, true, true, true, true, false, true, true, true, false, false] rfl (tj_X4_tryMoves_118_65 hX hs h1 x2 x3 x4 x5 x7 x8 x9 0 M o h hP hE hR)
set_option maxRecDepth 100000 in
set_option maxHeartbeats 4000000 in
theorem ts_X4_tryMoves_65 {X : Cxt} (hX : Gd X RX4 cX4_tryMoves 12 (none) 5) (hs : SOK (xG X)) {a1 : Nat} (h1 : at_ (xG X) a1 11 0) (x2 : Int) (x3 : Int) (x4 : Int) (x5 : Int) (x7 : Int) (x8 : Int) (M : Mem) {Q : State → Prop} (o : (Int × Mem) ⊕ ((Mem) ⊕ (Mem))) (h : s_X4_tryMoves_65 a1 x2 x3 x4 x5 x7 x8 M = some o) (hP : ∀ y, o = .inl y → V X 0 0 Q 65 [some (vr (xG X) 86), some (vr (xG X) a1), some (vi x2), some (vi x3), some (vi x4), some (vi x5), none, some (vi x7), some (vi y.1), none, none, none] [] y.2) (hE : ∀ z, o = .inr (.inl z) → V X 0 0 Q 177 [none, none, none, none, none, none, none, none, none, none, none, none] [] z) (hR : ∀ q, o = .inr (.inr q) → Q = Qn X none q) : V X 0 0 Q 65 [some (vr (xG X) 86), some (vr (xG X) a1), some (vi x2), some (vi x3), some (vi x4), some (vi x5), none, some (vi x7), some (vi x8), none, none, none] [] M := by
  unfold s_X4_tryMoves_65 at h
  refine x_iload hX dX4_tryMoves_65 rfl ?_
  refine x_aloadn hX dX4_tryMoves_67 rfl ?_
  refine x_getRj (j := a1 + 16) hX dX4_tryMoves_68 fl_X4_45 rfl h1 rfl ?_
  refine x_getI hX dX4_tryMoves_71 fl_X4_61 rfl (fo_1_3 (gk hX) h1) ?_
  refine x_icmp_ge (tgt := 177) hX dX4_tryMoves_74 (by decide) rfl rfl (fun hc => ?_) (fun hc => ?_)
  · replace h := (if_pos hc).symm.trans h
    refine x_aloadn hX dX4_tryMoves_77 rfl ?_
    refine x_getRj (j := a1 + 16) hX dX4_tryMoves_78 fl_X4_45 rfl h1 rfl ?_
    refine x_getRj (j := a1 + 16 + 1) hX dX4_tryMoves_81 fl_X4_62 rfl (fo_1_3 (gk hX) h1) rfl ?_
    refine x_iload hX dX4_tryMoves_84 rfl ?_
    obtain ⟨b_9, h⟩ := gi_of h
    refine x_iald hX dX4_tryMoves_86 (fo_0_1 (gk hX) (fo_1_3 (gk hX) h1)) b_9 rfl ?_
    refine x_iconst hX dX4_tryMoves_87 ?_
    refine x_iloadn hX dX4_tryMoves_88 rfl ?_
    refine x_ishl hX dX4_tryMoves_89 ?_
    refine x_ior hX dX4_tryMoves_90 ?_
    obtain ⟨x9_10, ex9_10, h⟩ := bnd_of h
    refine x_istore (ls' := [some (vr (xG X) 86), some (vr (xG X) a1), some (vi x2), some (vi x3), some (vi x4), some (vi x5), none, some (vi x7), some (vi x8), some (vi x9_10), none, none]) hX dX4_tryMoves_91 rfl ex9_10 rfl ?_
    refine x_iload hX dX4_tryMoves_93 rfl ?_
    obtain ⟨r_11, er_11, h⟩ := cl1_of h
    refine x_callSi (As := [vi x9_10]) (rest := []) hX dX4_tryMoves_95 (c_J6_bitCount_0f7a4 (gk hX) (gl hX) x9_10 M _ er_11) kJ6_bitCount_0f7a4 sJ6_bitCount_0f7a4 w_1324 rfl rfl rfl (Nat.le_of_ble_eq_true rfl) z0 ?_
    refine x_iloadn hX dX4_tryMoves_98 rfl ?_
    refine x_icmp_gt (tgt := 117) hX dX4_tryMoves_99 (by decide) rfl rfl (fun hc => ?_) (fun hc => ?_)
    · replace h := (if_pos hc).symm.trans h
      exact x_weak [true, true, true, true, true, true, false, true, true, true, false, false] rfl (tj_X4_tryMoves_117_65 hX hs h1 x2 x3 x4 x5 x7 x8 x9_10 M o h hP hE hR)
    · replace h := (if_neg hc).symm.trans h
      refine x_aloadn hX dX4_tryMoves_102 rfl ?_
      refine x_iload hX dX4_tryMoves_103 rfl ?_
      obtain ⟨r_20, er_20, h⟩ := cl1_of h
      refine x_callVi (t := 1) (As := [vi x9_10]) (rest := []) hX dX4_tryMoves_105 (c_X1_weightOfAll (gk hX) (gl hX) h1 x9_10 M _ er_20) kX1_weightOfAll vX1_weightOfAll w_1325 h1 rfl rfl rfl rfl (Nat.le_of_ble_eq_true rfl) z0 ?_
      refine x_iload hX dX4_tryMoves_108 rfl ?_
      refine x_icmp_gt (tgt := 117) hX dX4_tryMoves_110 (by decide) rfl rfl (fun hc => ?_) (fun hc => ?_)
      · replace h := (if_pos hc).symm.trans h
        exact x_weak [true, true, true, true, true, true, false, true, true, true, false, false] rfl (tj_X4_tryMoves_117_65 hX hs h1 x2 x3 x4 x5 x7 x8 x9_10 M o h hP hE hR)
      · replace h := (if_neg hc).symm.trans h
        refine x_iconst hX dX4_tryMoves_113 ?_
        refine x_goto (tgt := 118) hX dX4_tryMoves_114 (by decide) ?_
        exact x_weak [true, true, true, true, true, true, false, true, true, true, false, false] rfl (tj_X4_tryMoves_118_65 hX hs h1 x2 x3 x4 x5 x7 x8 x9_10 1 M o h hP hE hR)
  · replace h := (if_neg hc).symm.trans h
    exact x_weak [false, false, false, false, false, false, false, false, false, false, false, false] rfl (hE M (Option.some.inj h).symm)
set_option maxRecDepth 100000 in
set_option maxHeartbeats 4000000 in
theorem c_X4_tryMoves {l : Launch} {G : Gx} (hG : GOK G) (hl : l.stackTraces = false) (hs : SOK G) {a1 : Nat} (h1 : at_ G a1 11 0) (x2 : Int) (x3 : Int) (x4 : Int) (M : Mem) (Mr : Mem) (h : f_X4_tryMoves a1 x2 x3 x4 M = some Mr) : Cn l G mX4_tryMoves 5 [vr G 86, vr G a1, vi x2, vi x3, vi x4] M none Mr := by
  refine Cn_of2 (ls := [some (vr G 86), some (vr G a1), some (vi x2), some (vi x3), some (vi x4), none, none, none, none, none, none, none]) hG hl kX4_tryMoves rfl (Nat.le_of_ble_eq_true rfl) rfl rfl rfl rfl rfl (fun X eG el hX => ?_)
  subst eG; subst el
  unfold f_X4_tryMoves at h
  refine x_aloadn hX dX4_tryMoves_0 rfl ?_
  refine x_getRj (j := a1 + 16) hX dX4_tryMoves_1 fl_X4_45 rfl h1 rfl ?_
  refine x_iloadn hX dX4_tryMoves_4 rfl ?_
  obtain ⟨r_1, er_1, h⟩ := cl1_of h
  refine x_callVi (t := 0) (As := [vi x2]) (rest := []) hX dX4_tryMoves_5 (c_X0_batchWith (gk hX) (gl hX) (fo_1_3 (gk hX) h1) x2 M _ er_1) kX0_batchWith vX0_batchWith w_1323 (fo_1_3 (gk hX) h1) rfl rfl rfl rfl (Nat.le_of_ble_eq_true rfl) z0 ?_
  refine x_istore (ls' := [some (vr (xG X) 86), some (vr (xG X) a1), some (vi x2), some (vi x3), some (vi x4), some (vi r_1), none, none, none, none, none, none]) hX dX4_tryMoves_8 rfl rfl rfl ?_
  refine x_iload hX dX4_tryMoves_10 rfl ?_
  refine x_iconst hX dX4_tryMoves_12 ?_
  refine x_icmp_ne (tgt := 17) hX dX4_tryMoves_13 (by decide) rfl cw_m1 (fun hc => ?_) (fun hc => ?_)
  · replace h := (if_pos hc).symm.trans h
    cases h
    exact x_vret hX dX4_tryMoves_16 rfl
  · replace h := (if_neg hc).symm.trans h
    refine x_aloadn hX dX4_tryMoves_17 rfl ?_
    refine x_getRj (j := a1 + 16) hX dX4_tryMoves_18 fl_X4_45 rfl h1 rfl ?_
    refine x_getRj (j := a1 + 16 + 1) hX dX4_tryMoves_21 fl_X4_62 rfl (fo_1_3 (gk hX) h1) rfl ?_
    refine x_iload hX dX4_tryMoves_24 rfl ?_
    obtain ⟨b_3, h⟩ := gi_of h
    refine x_iald hX dX4_tryMoves_26 (fo_0_1 (gk hX) (fo_1_3 (gk hX) h1)) b_3 rfl ?_
    refine x_iconst hX dX4_tryMoves_27 ?_
    refine x_iloadn hX dX4_tryMoves_28 rfl ?_
    refine x_ishl hX dX4_tryMoves_29 ?_
    refine x_iconst hX dX4_tryMoves_30 ?_
    refine x_ixor hX dX4_tryMoves_31 ?_
    refine x_iand hX dX4_tryMoves_32 ?_
    obtain ⟨x6_4, ex6_4, h⟩ := bnd_of h
    refine x_istore (ls' := [some (vr (xG X) 86), some (vr (xG X) a1), some (vi x2), some (vi x3), some (vi x4), some (vi r_1), some (vi x6_4), none, none, none, none, none]) hX dX4_tryMoves_33 rfl ex6_4 rfl ?_
    refine x_aloadn hX dX4_tryMoves_35 rfl ?_
    refine x_getRj (j := 96) hX dX4_tryMoves_36 fl_X4_18 rfl (st86 hs) rfl ?_
    refine x_iload hX dX4_tryMoves_39 rfl ?_
    obtain ⟨b_5, h⟩ := gi_of h
    refine x_iald hX dX4_tryMoves_41 (st96 hs) b_5 rfl ?_
    refine x_aloadn hX dX4_tryMoves_42 rfl ?_
    refine x_getRj (j := 87) hX dX4_tryMoves_43 fl_X4_12 rfl (st86 hs) rfl ?_
    refine x_aloadn hX dX4_tryMoves_46 rfl ?_
    refine x_iload hX dX4_tryMoves_47 rfl ?_
    refine x_aloadn hX dX4_tryMoves_49 rfl ?_
    refine x_getRj (j := a1 + 1) hX dX4_tryMoves_50 fl_X4_65 rfl h1 rfl ?_
    refine x_getI hX dX4_tryMoves_53 fl_X4_69 rfl (fo_1_0 (gk hX) h1) ?_
    obtain ⟨r_6, M_7, er_6, h⟩ := cl2_of h
    refine x_callVi (t := 6) (As := [vr (xG X) a1, vi x6_4, vi (M (a1 + 1) 5)]) (rest := [vi (M 96 (ix r_1))]) hX dX4_tryMoves_56 (c_X6_lengthFor (gk hX) (gl hX) (st87 hs) h1 x6_4 (M (a1 + 1) 5) M _ _ er_6) kX6_lengthFor vX6_lengthFor w_1318 (st87 hs) rfl rfl rfl rfl (Nat.le_of_ble_eq_true rfl) z0 ?_
    refine x_isub hX dX4_tryMoves_59 ?_
    obtain ⟨x7_8, ex7_8, h⟩ := bnd_of h
    refine x_istore (ls' := [some (vr (xG X) 86), some (vr (xG X) a1), some (vi x2), some (vi x3), some (vi x4), some (vi r_1), some (vi x6_4), some (vi x7_8), none, none, none, none]) hX dX4_tryMoves_60 rfl ex7_8 rfl ?_
    refine x_iconst hX dX4_tryMoves_62 ?_
    refine x_istore (ls' := [some (vr (xG X) 86), some (vr (xG X) a1), some (vi x2), some (vi x3), some (vi x4), some (vi r_1), some (vi x6_4), some (vi x7_8), some (vi 0), none, none, none]) hX dX4_tryMoves_63 rfl rfl rfl ?_
    refine x_weak (ls' := [some (vr (xG X) 86), some (vr (xG X) a1), some (vi x2), some (vi x3), some (vi x4), some (vi r_1), none, some (vi x7_8), some (vi 0), none, none, none]) [true, true, true, true, true, true, false, true, true, false, false, false] rfl ?_
    refine lp_use (x := (0, M_7)) (P := fun x => V X 0 0 (Qn X none Mr) 65 [some (vr (xG X) 86), some (vr (xG X) a1), some (vi x2), some (vi x3), some (vi x4), some (vi r_1), none, some (vi x7_8), some (vi x.1), none, none, none] [] x.2) (PE := fun z_22 => V X 0 0 (Qn X none Mr) 177 [none, none, none, none, none, none, none, none, none, none, none, none] [] z_22) (PR := fun q => (Qn X none Mr) = Qn X none q) h (fun x o hh hP hE hR => ts_X4_tryMoves_65 hX hs h1 x2 x3 x4 r_1 x7_8 x.1 x.2 o hh hP hE hR) (fun z_22 h => ?_) (fun q h => ?_)
    · show V X 0 0 (Qn X none Mr) 177 [none, none, none, none, none, none, none, none, none, none, none, none] [] z_22
      cases h
      exact x_vret hX dX4_tryMoves_177 rfl
    · cases h; rfl
set_option maxRecDepth 100000 in
set_option maxHeartbeats 4000000 in
theorem c_X6_listStops {l : Launch} {G : Gx} (hG : GOK G) (hl : l.stackTraces = false) {th : Nat} (h0 : at_ G th 16 0) {a1 : Nat} (h1 : at_ G a1 11 0) (x2 : Int) (M : Mem) (Mr : Mem) (h : f_X6_listStops th a1 x2 M = some Mr) : Cn l G mX6_listStops 5 [vr G th, vr G a1, vi x2] M none Mr := by
  refine Cn_of2 (ls := [some (vr G th), some (vr G a1), some (vi x2), none]) hG hl kX6_listStops rfl (Nat.le_of_ble_eq_true rfl) rfl rfl rfl rfl rfl (fun X eG el hX => ?_)
  subst eG; subst el
  unfold f_X6_listStops at h
  refine x_aloadn hX dX6_listStops_0 rfl ?_
  refine x_getRj (j := a1 + 1) hX dX6_listStops_1 fl_X6_46 rfl h1 rfl ?_
  refine x_astoren (ls' := [some (vr (xG X) th), some (vr (xG X) a1), some (vi x2), some (vr (xG X) (a1 + 1))]) hX dX6_listStops_4 rfl rfl ?_
  refine x_aloadn hX dX6_listStops_5 rfl ?_
  refine x_aloadn hX dX6_listStops_6 rfl ?_
  refine x_iloadn hX dX6_listStops_7 rfl ?_
  obtain ⟨M_2, er_1, h⟩ := cl1_of h
  refine x_callVv (t := 6) (As := [vr (xG X) (a1 + 1), vi x2]) (rest := []) hX dX6_listStops_8 (c_X6_findAisles (gk hX) (gl hX) h0 (fo_1_0 (gk hX) h1) x2 M _ er_1) kX6_findAisles vX6_findAisles w_630 h0 rfl rfl rfl rfl (Nat.le_of_ble_eq_true rfl) z0 ?_
  refine x_aloadn hX dX6_listStops_11 rfl ?_
  refine x_iconst hX dX6_listStops_12 ?_
  obtain ⟨M_3, eM_3, h⟩ := bnd_of h
  refine x_putI hX dX6_listStops_13 fp_X6_143 rfl h0 (x_meq eM_3 ?_)
  refine x_aloadn hX dX6_listStops_16 rfl ?_
  refine x_getI hX dX6_listStops_17 fl_X6_146 rfl (fo_1_0 (gk hX) h1) ?_
  by_cases hs1 : w32 (M_3 (a1 + 1) 5) = 1
  · replace h := (if_pos hs1).symm.trans h
    refine x_tsI (tgt := 48) hX dX6_listStops_20 hs1 (by decide) (by decide) rfl (by decide) ?_
    refine x_aloadn hX dX6_listStops_48 rfl ?_
    refine x_aloadn hX dX6_listStops_49 rfl ?_
    obtain ⟨M_5, er_4, h⟩ := cl1_of h
    refine x_callVv (t := 6) (As := [vr (xG X) a1]) (rest := []) hX dX6_listStops_50 (c_X6_listSShape (gk hX) (gl hX) h0 h1 M_3 _ er_4) kX6_listSShape vX6_listSShape w_1463 h0 rfl rfl rfl rfl (Nat.le_of_ble_eq_true rfl) z0 ?_
    refine x_goto (tgt := 81) hX dX6_listStops_53 (by decide) ?_
    cases h
    exact x_vret hX dX6_listStops_81 rfl
  · replace h := (if_neg hs1).symm.trans h
    by_cases hs2 : w32 (M_3 (a1 + 1) 5) = 2
    · replace h := (if_pos hs2).symm.trans h
      refine x_tsI (tgt := 56) hX dX6_listStops_20 hs2 (by decide) (by decide) rfl (by decide) ?_
      refine x_aloadn hX dX6_listStops_56 rfl ?_
      refine x_aloadn hX dX6_listStops_57 rfl ?_
      obtain ⟨M_7, er_6, h⟩ := cl1_of h
      refine x_callVv (t := 6) (As := [vr (xG X) a1]) (rest := []) hX dX6_listStops_58 (c_X6_listLargestGap (gk hX) (gl hX) h0 h1 M_3 _ er_6) kX6_listLargestGap vX6_listLargestGap w_1483 h0 rfl rfl rfl rfl (Nat.le_of_ble_eq_true rfl) z0 ?_
      refine x_goto (tgt := 81) hX dX6_listStops_61 (by decide) ?_
      cases h
      exact x_vret hX dX6_listStops_81 rfl
    · replace h := (if_neg hs2).symm.trans h
      by_cases hs3 : w32 (M_3 (a1 + 1) 5) = 3
      · replace h := (if_pos hs3).symm.trans h
        refine x_tsI (tgt := 64) hX dX6_listStops_20 hs3 (by decide) (by decide) rfl (by decide) ?_
        refine x_aloadn hX dX6_listStops_64 rfl ?_
        obtain ⟨M_9, er_8, h⟩ := cl1_of h
        refine x_callVv (t := 6) (As := []) (rest := []) hX dX6_listStops_65 (c_X6_planCombined (gk hX) (gl hX) h0 M_3 _ er_8) kX6_planCombined vX6_planCombined w_654 h0 rfl rfl rfl rfl (Nat.le_of_ble_eq_true rfl) z0 ?_
        refine x_aloadn hX dX6_listStops_68 rfl ?_
        refine x_aloadn hX dX6_listStops_69 rfl ?_
        obtain ⟨M_11, er_10, h⟩ := cl1_of h
        refine x_callVv (t := 6) (As := [vr (xG X) a1]) (rest := []) hX dX6_listStops_70 (c_X6_listCombined (gk hX) (gl hX) h0 h1 M_9 _ er_10) kX6_listCombined vX6_listCombined w_1491 h0 rfl rfl rfl rfl (Nat.le_of_ble_eq_true rfl) z0 ?_
        refine x_goto (tgt := 81) hX dX6_listStops_73 (by decide) ?_
        cases h
        exact x_vret hX dX6_listStops_81 rfl
      · replace h := (if_neg hs3).symm.trans h
        refine x_tsO (tgt := 76) hX dX6_listStops_20 (by omega) (by decide) ?_
        refine x_aloadn hX dX6_listStops_76 rfl ?_
        refine x_aloadn hX dX6_listStops_77 rfl ?_
        obtain ⟨M_13, er_12, h⟩ := cl1_of h
        refine x_callVv (t := 6) (As := [vr (xG X) a1]) (rest := []) hX dX6_listStops_78 (c_X6_listReturn (gk hX) (gl hX) h0 h1 M_3 _ er_12) kX6_listReturn vX6_listReturn w_1487 h0 rfl rfl rfl rfl (Nat.le_of_ble_eq_true rfl) z0 ?_
        cases h
        exact x_vret hX dX6_listStops_81 rfl
set_option maxRecDepth 100000 in
set_option maxHeartbeats 4000000 in
theorem ts_X7_runAll_7 {X : Cxt} (hX : Gd X RX7 cX7_runAll 3 (none) 5) {th : Nat} (h0 : at_ (xG X) th 17 0) {a1 : Nat} (h1 : at_ (xG X) a1 11 0) (x2 : Int) (M : Mem) {Q : State → Prop} (o : (Int × Mem) ⊕ ((Mem) ⊕ (Mem))) (h : s_X7_runAll_7 th a1 x2 M = some o) (hP : ∀ y, o = .inl y → V X 0 0 Q 7 [some (vr (xG X) th), some (vr (xG X) a1), some (vi y.1)] [] y.2) (hE : ∀ z, o = .inr (.inl z) → V X 0 0 Q 34 [none, none, none] [] z) (hR : ∀ q, o = .inr (.inr q) → Q = Qn X none q) : V X 0 0 Q 7 [some (vr (xG X) th), some (vr (xG X) a1), some (vi x2)] [] M := by
  unfold s_X7_runAll_7 at h
  refine x_iloadn hX dX7_runAll_7 rfl ?_
  refine x_aloadn hX dX7_runAll_8 rfl ?_
  refine x_getRj (j := a1 + 16) hX dX7_runAll_9 fl_X7_35 rfl h1 rfl ?_
  refine x_getI hX dX7_runAll_12 fl_X7_39 rfl (fo_1_3 (gk hX) h1) ?_
  refine x_icmp_ge (tgt := 34) hX dX7_runAll_15 (by decide) rfl rfl (fun hc => ?_) (fun hc => ?_)
  · replace h := (if_pos hc).symm.trans h
    refine x_aloadn hX dX7_runAll_18 rfl ?_
    refine x_aloadn hX dX7_runAll_19 rfl ?_
    refine x_getRj (j := a1 + 1) hX dX7_runAll_20 fl_X7_29 rfl h1 rfl ?_
    refine x_iloadn hX dX7_runAll_23 rfl ?_
    refine x_iloadn hX dX7_runAll_24 rfl ?_
    obtain ⟨M_4, er_3, h⟩ := cl1_of h
    refine x_callVv (t := 7) (As := [vr (xG X) (a1 + 1), vi x2, vi x2]) (rest := []) hX dX7_runAll_25 (c_X7_run (gk hX) (gl hX) h0 (fo_1_0 (gk hX) h1) x2 x2 M _ er_3) kX7_run vX7_run w_685 h0 rfl rfl rfl rfl (Nat.le_of_ble_eq_true rfl) z0 ?_
    obtain ⟨x2_5, ex2_5, h⟩ := bnd_of h
    refine x_iinc (ls' := [some (vr (xG X) th), some (vr (xG X) a1), some (vi x2_5)]) hX dX7_runAll_28 rfl rfl ex2_5 rfl ?_
    refine x_goto (tgt := 7) hX dX7_runAll_31 (by decide) ?_
    exact x_weak [true, true, true] rfl (hP (x2_5, M_4) (Option.some.inj h).symm)
  · replace h := (if_neg hc).symm.trans h
    exact x_weak [false, false, false] rfl (hE M (Option.some.inj h).symm)
set_option maxRecDepth 100000 in
set_option maxHeartbeats 4000000 in
theorem c_X7_runAll {l : Launch} {G : Gx} (hG : GOK G) (hl : l.stackTraces = false) {th : Nat} (h0 : at_ G th 17 0) {a1 : Nat} (h1 : at_ G a1 11 0) (M : Mem) (Mr : Mem) (h : f_X7_runAll th a1 M = some Mr) : Cn l G mX7_runAll 5 [vr G th, vr G a1] M none Mr := by
  refine Cn_of2 (ls := [some (vr G th), some (vr G a1), none]) hG hl kX7_runAll rfl (Nat.le_of_ble_eq_true rfl) rfl rfl rfl rfl rfl (fun X eG el hX => ?_)
  subst eG; subst el
  unfold f_X7_runAll at h
  refine x_aloadn hX dX7_runAll_0 rfl ?_
  refine x_aloadn hX dX7_runAll_1 rfl ?_
  obtain ⟨M_2, er_1, h⟩ := cl1_of h
  refine x_callVv (t := 7) (As := [vr (xG X) a1]) (rest := []) hX dX7_runAll_2 (c_X7_measureWork (gk hX) (gl hX) h0 h1 M _ er_1) kX7_measureWork vX7_measureWork w_675 h0 rfl rfl rfl rfl (Nat.le_of_ble_eq_true rfl) z0 ?_
  refine x_iconst hX dX7_runAll_5 ?_
  refine x_istoren (ls' := [some (vr (xG X) th), some (vr (xG X) a1), some (vi 0)]) hX dX7_runAll_6 rfl rfl rfl ?_
  refine x_weak (ls' := [some (vr (xG X) th), some (vr (xG X) a1), some (vi 0)]) [true, true, true] rfl ?_
  refine lp_use (x := (0, M_2)) (P := fun x => V X 0 0 (Qn X none Mr) 7 [some (vr (xG X) th), some (vr (xG X) a1), some (vi x.1)] [] x.2) (PE := fun z_6 => V X 0 0 (Qn X none Mr) 34 [none, none, none] [] z_6) (PR := fun q => (Qn X none Mr) = Qn X none q) h (fun x o hh hP hE hR => ts_X7_runAll_7 hX h0 h1 x.1 x.2 o hh hP hE hR) (fun z_6 h => ?_) (fun q h => ?_)
  · show V X 0 0 (Qn X none Mr) 34 [none, none, none] [] z_6
    cases h
    exact x_vret hX dX7_runAll_34 rfl
  · cases h; rfl
set_option maxRecDepth 100000 in
set_option maxHeartbeats 4000000 in
theorem ts_X10_isWord_28 {X : Cxt} (hX : Gd X RX10 cX10_isWord 3 (some .boolean) 5) (hs : SOK (xG X)) {w1 : Nat} (h1 : Nat.blt w1 12 = true) (M : Mem) (x2 : Int) {Q : State → Prop} (o : (Int) ⊕ ((Unit) ⊕ (Int))) (h : s_X10_isWord_28 w1 M x2 = some o) (hP : ∀ y, o = .inl y → V X 0 0 Q 28 [some (vr (xG X) 38), some (vsz (xG X) w1), some (vi y)] [] M) (hE : ∀ z, o = .inr (.inl z) → V X 0 0 Q 63 [none, none, none] [] M) (hR : ∀ q, o = .inr (.inr q) → Q = Qn X (some (vi q)) M) : V X 0 0 Q 28 [some (vr (xG X) 38), some (vsz (xG X) w1), some (vi x2)] [] M := by
  unfold s_X10_isWord_28 at h
  refine x_iloadn hX dX10_isWord_28 rfl ?_
  refine x_sloadn hX dX10_isWord_29 rfl ?_
  refine x_callTi (As := []) (rest := [vi x2]) hX dX10_isWord_30 (c_strlen (gk hX) (gl hX) h1 _) k_strlen v_strlen w_801 h1 rfl rfl rfl rfl (Nat.le_of_ble_eq_true rfl) z0 ?_
  refine x_icmp_ge (tgt := 63) hX dX10_isWord_33 (by decide) rfl rfl (fun hc => ?_) (fun hc => ?_)
  · replace h := (if_pos hc).symm.trans h
    refine x_aloadn hX dX10_isWord_36 rfl ?_
    refine x_getRj (j := 39) hX dX10_isWord_37 fl_X10_9 rfl (st38 hs) rfl ?_
    refine x_aloadn hX dX10_isWord_40 rfl ?_
    refine x_getI hX dX10_isWord_41 fl_X10_51 rfl (st38 hs) ?_
    refine x_iloadn hX dX10_isWord_44 rfl ?_
    refine x_iadd hX dX10_isWord_45 ?_
    obtain ⟨b_1, h⟩ := gi_of h
    refine x_bald hX dX10_isWord_46 (st39 hs) b_1 rfl ?_
    refine x_sloadn hX dX10_isWord_47 rfl ?_
    refine x_iloadn hX dX10_isWord_48 rfl ?_
    obtain ⟨b_2, h⟩ := gs_of h
    refine x_callTi (As := [vi x2]) (rest := [vi (M 39 (ix ((M 38 5) + x2)))]) hX dX10_isWord_49 (c_strchr (gk hX) (gl hX) h1 _ b_2 _) k_strchr v_strchr w_811 h1 rfl rfl rfl rfl (Nat.le_of_ble_eq_true rfl) z0 ?_
    refine x_icmp_eq (tgt := 57) hX dX10_isWord_52 (by decide) rfl rfl (fun hc => ?_) (fun hc => ?_)
    · replace h := (if_pos hc).symm.trans h
      obtain ⟨x2_3, ex2_3, h⟩ := bnd_of h
      refine x_iinc (ls' := [some (vr (xG X) 38), some (vsz (xG X) w1), some (vi x2_3)]) hX dX10_isWord_57 rfl rfl ex2_3 rfl ?_
      refine x_goto (tgt := 28) hX dX10_isWord_60 (by decide) ?_
      exact x_weak [true, true, true] rfl (hP x2_3 (Option.some.inj h).symm)
    · replace h := (if_neg hc).symm.trans h
      refine x_iconst hX dX10_isWord_55 ?_
      exact x_qeq (hR 0 (Option.some.inj h).symm) (x_zret hX dX10_isWord_56 (Or.inl cw_0) rfl)
  · replace h := (if_neg hc).symm.trans h
    exact x_weak [false, false, false] rfl (hE () (Option.some.inj h).symm)
set_option maxRecDepth 100000 in
set_option maxHeartbeats 4000000 in
theorem c_X10_isWord {l : Launch} {G : Gx} (hG : GOK G) (hl : l.stackTraces = false) (hs : SOK G) {w1 : Nat} (h1 : Nat.blt w1 12 = true) (M : Mem) (r : Int) (h : f_X10_isWord w1 M = some r) : Cn l G mX10_isWord 5 [vr G 38, vsz G w1] M (some (vi r)) M := by
  refine Cn_of2 (ls := [some (vr G 38), some (vsz G w1), none]) hG hl kX10_isWord rfl (Nat.le_of_ble_eq_true rfl) rfl rfl rfl rfl rfl (fun X eG el hX => ?_)
  subst eG; subst el
  unfold f_X10_isWord at h
  refine x_aloadn hX dX10_isWord_0 rfl ?_
  refine x_getI hX dX10_isWord_1 fl_X10_44 rfl (st38 hs) ?_
  refine x_iconst hX dX10_isWord_4 ?_
  refine x_icmp_ne (tgt := 24) hX dX10_isWord_5 (by decide) rfl cw_1 (fun hc => ?_) (fun hc => ?_)
  · replace h := (if_pos hc).symm.trans h
    refine x_aloadn hX dX10_isWord_8 rfl ?_
    refine x_getI hX dX10_isWord_9 fl_X10_25 rfl (st38 hs) ?_
    refine x_aloadn hX dX10_isWord_12 rfl ?_
    refine x_getI hX dX10_isWord_13 fl_X10_51 rfl (st38 hs) ?_
    refine x_isub hX dX10_isWord_16 ?_
    refine x_sloadn hX dX10_isWord_17 rfl ?_
    refine x_callTi (As := []) (rest := [vi ((M 38 6) - (M 38 5))]) hX dX10_isWord_18 (c_strlen (gk hX) (gl hX) h1 _) k_strlen v_strlen w_801 h1 rfl rfl rfl rfl (Nat.le_of_ble_eq_true rfl) z0 ?_
    refine x_icmp_eq (tgt := 26) hX dX10_isWord_21 (by decide) rfl rfl (fun hc => ?_) (fun hc => ?_)
    · replace h := (if_pos hc).symm.trans h
      refine x_iconst hX dX10_isWord_26 ?_
      refine x_istoren (ls' := [some (vr (xG X) 38), some (vsz (xG X) w1), some (vi 0)]) hX dX10_isWord_27 rfl rfl rfl ?_
      refine x_weak (ls' := [some (vr (xG X) 38), some (vsz (xG X) w1), some (vi 0)]) [true, true, true] rfl ?_
      refine lp_use (x := 0) (P := fun x => V X 0 0 (Qn X (some (vi r)) M) 28 [some (vr (xG X) 38), some (vsz (xG X) w1), some (vi x)] [] M) (PE := fun z_4 => V X 0 0 (Qn X (some (vi r)) M) 63 [none, none, none] [] M) (PR := fun q => (Qn X (some (vi r)) M) = Qn X (some (vi q)) M) h (fun x o hh hP hE hR => ts_X10_isWord_28 hX hs h1 M x o hh hP hE hR) (fun z_4 h => ?_) (fun q h => ?_)
      · show V X 0 0 (Qn X (some (vi r)) M) 63 [none, none, none] [] M
        refine x_iconst hX dX10_isWord_63 ?_
        cases h
        exact x_zret hX dX10_isWord_64 (Or.inr cw_1) rfl
      · cases h; rfl
    · replace h := (if_neg hc).symm.trans h
      refine x_iconst hX dX10_isWord_24 ?_
      cases h
      exact x_zret hX dX10_isWord_25 (Or.inl cw_0) rfl
  · replace h := (if_neg hc).symm.trans h
    refine x_iconst hX dX10_isWord_24 ?_
    cases h
    exact x_zret hX dX10_isWord_25 (Or.inl cw_0) rfl
set_option maxRecDepth 100000 in
set_option maxHeartbeats 4000000 in
theorem c_X11_stopItem {l : Launch} {G : Gx} (hG : GOK G) (hl : l.stackTraces = false) (hs : SOK G)  (x1 : Int) (x2 : Int) (x3 : Int) (M : Mem) (r : Nat ⊕ Int) (Mr : Mem) (h : f_X11_stopItem x1 x2 x3 M = some (r, Mr)) : Cx l G mX11_stopItem 6 3 18 [vr G 0, vi x1, vi x2, vi x3] M (ovi r) Mr := by
  refine Cx_of2 (ls := [some (vr G 0), some (vi x1), some (vi x2), some (vi x3)]) hG hl kX11_stopItem rfl (Nat.le_of_ble_eq_true rfl) rfl rfl rfl rfl rfl (fun X eG el hX hN => ?_)
  subst eG; subst el
  unfold f_X11_stopItem at h
  refine x_aloadn hX dX11_stopItem_0 rfl ?_
  refine x_iloadn hX dX11_stopItem_1 rfl ?_
  rcases cx1_of h with ⟨e_3, ee_3, h⟩ | ⟨r_1, er_1, h⟩
  · exact x_rs2 (f := ovi) h (x_xVt (t := 10) (As := [vi x1]) (rest := []) hX hN dX11_stopItem_2 (c_X11_needBatch (gk hX) (gl hX) hs x1 M _ ee_3) kX11_needBatch vX11_needBatch w_1282 (st0 hs) rfl rfl rfl rfl (Nat.le_of_ble_eq_true rfl) (Nat.le_of_ble_eq_true rfl) (Nat.le_of_ble_eq_true rfl))
  · refine x_xVr (t := 10) (As := [vi x1]) (rest := []) hX dX11_stopItem_2 (c_X11_needBatch (gk hX) (gl hX) hs x1 M _ er_1) kX11_needBatch vX11_needBatch w_1282 (st0 hs) rfl rfl rfl rfl (Nat.le_of_ble_eq_true rfl) (kf hN (a := 1) (b := 6) (Nat.le_of_ble_eq_true rfl) (Nat.le_of_ble_eq_true rfl)) ?_
    show V X 1 6 _ 5 [some (vr (xG X) 0), some (vi x1), some (vi x2), some (vi x3)] [] M
    refine x_aloadn hX dX11_stopItem_5 rfl ?_
    refine x_iloadn hX dX11_stopItem_6 rfl ?_
    rcases cx1_of h with ⟨e_6, ee_6, h⟩ | ⟨r_4, er_4, h⟩
    · exact x_rs2 (f := ovi) h (x_xVt (t := 10) (As := [vi x2]) (rest := []) hX hN dX11_stopItem_7 (c_X11_needZone (gk hX) (gl hX) hs x2 M _ ee_6) kX11_needZone vX11_needZone w_1424 (st0 hs) rfl rfl rfl rfl (Nat.le_of_ble_eq_true rfl) (Nat.le_of_ble_eq_true rfl) (Nat.le_of_ble_eq_true rfl))
    · refine x_xVr (t := 10) (As := [vi x2]) (rest := []) hX dX11_stopItem_7 (c_X11_needZone (gk hX) (gl hX) hs x2 M _ er_4) kX11_needZone vX11_needZone w_1424 (st0 hs) rfl rfl rfl rfl (Nat.le_of_ble_eq_true rfl) (kf hN (a := 2) (b := 12) (Nat.le_of_ble_eq_true rfl) (Nat.le_of_ble_eq_true rfl)) ?_
      show V X 2 12 _ 10 [some (vr (xG X) 0), some (vi x1), some (vi x2), some (vi x3)] [] M
      refine x_aloadn hX dX11_stopItem_10 rfl ?_
      refine x_getRj (j := 40) hX dX11_stopItem_11 fl_X11_33 rfl (st0 hs) rfl ?_
      refine x_aloadn hX dX11_stopItem_14 rfl ?_
      refine x_getRj (j := 1) hX dX11_stopItem_15 fl_X11_10 rfl (st0 hs) rfl ?_
      refine x_aloadn hX dX11_stopItem_18 rfl ?_
      refine x_getRj (j := 1) hX dX11_stopItem_19 fl_X11_10 rfl (st0 hs) rfl ?_
      refine x_getRj (j := 17) hX dX11_stopItem_22 fl_X11_159 rfl (st1 hs) rfl ?_
      refine x_getRj (j := 18) hX dX11_stopItem_25 fl_X11_195 rfl (st17 hs) rfl ?_
      refine x_iloadn hX dX11_stopItem_28 rfl ?_
      obtain ⟨b_7, h⟩ := gi_of h
      refine x_iald hX dX11_stopItem_29 (st18 hs) b_7 rfl ?_
      obtain ⟨M_9, er_8, h⟩ := cl1_of h
      refine x_callVv (t := 6) (As := [vr (xG X) 1, vi (M 18 (ix x1))]) (rest := []) hX dX11_stopItem_30 (c_X6_survey (gk hX) (gl hX) (st40 hs) (st1 hs) (M 18 (ix x1)) M _ er_8) kX6_survey vX6_survey w_1428 (st40 hs) rfl rfl rfl rfl (Nat.le_of_ble_eq_true rfl) (kf hN (a := 2) (b := 12) (Nat.le_of_ble_eq_true rfl) (Nat.le_of_ble_eq_true rfl)) ?_
      refine x_aloadn hX dX11_stopItem_33 rfl ?_
      refine x_getRj (j := 40) hX dX11_stopItem_34 fl_X11_33 rfl (st0 hs) rfl ?_
      refine x_aloadn hX dX11_stopItem_37 rfl ?_
      refine x_getRj (j := 1) hX dX11_stopItem_38 fl_X11_10 rfl (st0 hs) rfl ?_
      refine x_iloadn hX dX11_stopItem_41 rfl ?_
      obtain ⟨M_11, er_10, h⟩ := cl1_of h
      refine x_callVv (t := 6) (As := [vr (xG X) 1, vi x2]) (rest := []) hX dX11_stopItem_42 (c_X6_listStops (gk hX) (gl hX) (st40 hs) (st1 hs) x2 M_9 _ er_10) kX6_listStops vX6_listStops w_1459 (st40 hs) rfl rfl rfl rfl (Nat.le_of_ble_eq_true rfl) (kf hN (a := 2) (b := 12) (Nat.le_of_ble_eq_true rfl) (Nat.le_of_ble_eq_true rfl)) ?_
      refine x_iloadn hX dX11_stopItem_45 rfl ?_
      refine x_aloadn hX dX11_stopItem_46 rfl ?_
      refine x_getRj (j := 40) hX dX11_stopItem_47 fl_X11_33 rfl (st0 hs) rfl ?_
      refine x_getI hX dX11_stopItem_50 fl_X11_261 rfl (st40 hs) ?_
      rcases cx1_of h with ⟨e_14, ee_14, h⟩ | ⟨r_12, er_12, h⟩
      · exact x_rs2 (f := ovi) h (x_xSt (As := [vi x3, vi (M_11 40 12)]) (rest := []) hX hN dX11_stopItem_53 (c_X11_needIndex (gk hX) (gl hX) x3 (M_11 40 12) M_11 _ ee_14) kX11_needIndex sX11_needIndex w_1064 rfl rfl rfl (Nat.le_of_ble_eq_true rfl) (Nat.le_of_ble_eq_true rfl) (Nat.le_of_ble_eq_true rfl))
      · refine x_xSr (As := [vi x3, vi (M_11 40 12)]) (rest := []) hX dX11_stopItem_53 (c_X11_needIndex (gk hX) (gl hX) x3 (M_11 40 12) M_11 _ er_12) kX11_needIndex sX11_needIndex w_1064 rfl rfl rfl (Nat.le_of_ble_eq_true rfl) (kf hN (a := 3) (b := 18) (Nat.le_of_ble_eq_true rfl) (Nat.le_of_ble_eq_true rfl)) ?_
        show V X 3 18 _ 56 [some (vr (xG X) 0), some (vi x1), some (vi x2), some (vi x3)] [] M_11
        refine x_aloadn hX dX11_stopItem_56 rfl ?_
        refine x_getRj (j := 40) hX dX11_stopItem_57 fl_X11_33 rfl (st0 hs) rfl ?_
        refine x_getRj (j := 48) hX dX11_stopItem_60 fl_X11_264 rfl (st40 hs) rfl ?_
        refine x_iloadn hX dX11_stopItem_63 rfl ?_
        obtain ⟨b_15, h⟩ := gi_of h
        refine x_iald hX dX11_stopItem_64 (st48 hs) b_15 rfl ?_
        cases h
        exact x_iretX hX dX11_stopItem_65 (Nat.le_of_ble_eq_true rfl) (Nat.le_of_ble_eq_true rfl)
set_option maxRecDepth 100000 in
set_option maxHeartbeats 4000000 in
theorem c_X11_startTime {l : Launch} {G : Gx} (hG : GOK G) (hl : l.stackTraces = false) (hs : SOK G)  (x1 : Int) (x2 : Int) (M : Mem) (r : Nat ⊕ Int) (Mr : Mem) (h : f_X11_startTime x1 x2 M = some (r, Mr)) : Cx l G mX11_startTime 6 2 12 [vr G 0, vi x1, vi x2] M (ovi r) Mr := by
  refine Cx_of2 (ls := [some (vr G 0), some (vi x1), some (vi x2)]) hG hl kX11_startTime rfl (Nat.le_of_ble_eq_true rfl) rfl rfl rfl rfl rfl (fun X eG el hX hN => ?_)
  subst eG; subst el
  unfold f_X11_startTime at h
  refine x_aloadn hX dX11_startTime_0 rfl ?_
  refine x_iloadn hX dX11_startTime_1 rfl ?_
  rcases cx1_of h with ⟨e_3, ee_3, h⟩ | ⟨r_1, er_1, h⟩
  · exact x_rs2 (f := ovi) h (x_xVt (t := 10) (As := [vi x1]) (rest := []) hX hN dX11_startTime_2 (c_X11_needBatch (gk hX) (gl hX) hs x1 M _ ee_3) kX11_needBatch vX11_needBatch w_1282 (st0 hs) rfl rfl rfl rfl (Nat.le_of_ble_eq_true rfl) (Nat.le_of_ble_eq_true rfl) (Nat.le_of_ble_eq_true rfl))
  · refine x_xVr (t := 10) (As := [vi x1]) (rest := []) hX dX11_startTime_2 (c_X11_needBatch (gk hX) (gl hX) hs x1 M _ er_1) kX11_needBatch vX11_needBatch w_1282 (st0 hs) rfl rfl rfl rfl (Nat.le_of_ble_eq_true rfl) (kf hN (a := 1) (b := 6) (Nat.le_of_ble_eq_true rfl) (Nat.le_of_ble_eq_true rfl)) ?_
    show V X 1 6 _ 5 [some (vr (xG X) 0), some (vi x1), some (vi x2)] [] M
    refine x_aloadn hX dX11_startTime_5 rfl ?_
    refine x_iloadn hX dX11_startTime_6 rfl ?_
    rcases cx1_of h with ⟨e_6, ee_6, h⟩ | ⟨r_4, er_4, h⟩
    · exact x_rs2 (f := ovi) h (x_xVt (t := 10) (As := [vi x2]) (rest := []) hX hN dX11_startTime_7 (c_X11_needZone (gk hX) (gl hX) hs x2 M _ ee_6) kX11_needZone vX11_needZone w_1424 (st0 hs) rfl rfl rfl rfl (Nat.le_of_ble_eq_true rfl) (Nat.le_of_ble_eq_true rfl) (Nat.le_of_ble_eq_true rfl))
    · refine x_xVr (t := 10) (As := [vi x2]) (rest := []) hX dX11_startTime_7 (c_X11_needZone (gk hX) (gl hX) hs x2 M _ er_4) kX11_needZone vX11_needZone w_1424 (st0 hs) rfl rfl rfl rfl (Nat.le_of_ble_eq_true rfl) (kf hN (a := 2) (b := 12) (Nat.le_of_ble_eq_true rfl) (Nat.le_of_ble_eq_true rfl)) ?_
      show V X 2 12 _ 10 [some (vr (xG X) 0), some (vi x1), some (vi x2)] [] M
      refine x_aloadn hX dX11_startTime_10 rfl ?_
      refine x_getRj (j := 49) hX dX11_startTime_11 fl_X11_40 rfl (st0 hs) rfl ?_
      refine x_aloadn hX dX11_startTime_14 rfl ?_
      refine x_getRj (j := 1) hX dX11_startTime_15 fl_X11_10 rfl (st0 hs) rfl ?_
      obtain ⟨M_8, er_7, h⟩ := cl1_of h
      refine x_callVv (t := 7) (As := [vr (xG X) 1]) (rest := []) hX dX11_startTime_18 (c_X7_runAll (gk hX) (gl hX) (st49 hs) (st1 hs) M _ er_7) kX7_runAll vX7_runAll w_671 (st49 hs) rfl rfl rfl rfl (Nat.le_of_ble_eq_true rfl) (kf hN (a := 2) (b := 12) (Nat.le_of_ble_eq_true rfl) (Nat.le_of_ble_eq_true rfl)) ?_
      refine x_aloadn hX dX11_startTime_21 rfl ?_
      refine x_getRj (j := 49) hX dX11_startTime_22 fl_X11_40 rfl (st0 hs) rfl ?_
      refine x_getRj (j := 59) hX dX11_startTime_25 fl_X11_278 rfl (st49 hs) rfl ?_
      refine x_iloadn hX dX11_startTime_28 rfl ?_
      obtain ⟨b_9, h⟩ := gi_of h
      refine x_aald2 hX dX11_startTime_29 (st59 hs) b_9 ?_
      refine x_iloadn hX dX11_startTime_30 rfl ?_
      obtain ⟨b_10, h⟩ := gi_of h
      refine x_iald hX dX11_startTime_31 (ro (gk hX) (st59 hs) b_9) b_10 rfl ?_
      cases h
      exact x_iretX hX dX11_startTime_32 (Nat.le_of_ble_eq_true rfl) (Nat.le_of_ble_eq_true rfl)
set_option maxRecDepth 100000 in
set_option maxHeartbeats 4000000 in
theorem c_X11_leaveTime {l : Launch} {G : Gx} (hG : GOK G) (hl : l.stackTraces = false) (hs : SOK G)  (x1 : Int) (x2 : Int) (M : Mem) (r : Nat ⊕ Int) (Mr : Mem) (h : f_X11_leaveTime x1 x2 M = some (r, Mr)) : Cx l G mX11_leaveTime 6 2 12 [vr G 0, vi x1, vi x2] M (ovi r) Mr := by
  refine Cx_of2 (ls := [some (vr G 0), some (vi x1), some (vi x2)]) hG hl kX11_leaveTime rfl (Nat.le_of_ble_eq_true rfl) rfl rfl rfl rfl rfl (fun X eG el hX hN => ?_)
  subst eG; subst el
  unfold f_X11_leaveTime at h
  refine x_aloadn hX dX11_leaveTime_0 rfl ?_
  refine x_iloadn hX dX11_leaveTime_1 rfl ?_
  rcases cx1_of h with ⟨e_3, ee_3, h⟩ | ⟨r_1, er_1, h⟩
  · exact x_rs2 (f := ovi) h (x_xVt (t := 10) (As := [vi x1]) (rest := []) hX hN dX11_leaveTime_2 (c_X11_needBatch (gk hX) (gl hX) hs x1 M _ ee_3) kX11_needBatch vX11_needBatch w_1282 (st0 hs) rfl rfl rfl rfl (Nat.le_of_ble_eq_true rfl) (Nat.le_of_ble_eq_true rfl) (Nat.le_of_ble_eq_true rfl))
  · refine x_xVr (t := 10) (As := [vi x1]) (rest := []) hX dX11_leaveTime_2 (c_X11_needBatch (gk hX) (gl hX) hs x1 M _ er_1) kX11_needBatch vX11_needBatch w_1282 (st0 hs) rfl rfl rfl rfl (Nat.le_of_ble_eq_true rfl) (kf hN (a := 1) (b := 6) (Nat.le_of_ble_eq_true rfl) (Nat.le_of_ble_eq_true rfl)) ?_
    show V X 1 6 _ 5 [some (vr (xG X) 0), some (vi x1), some (vi x2)] [] M
    refine x_aloadn hX dX11_leaveTime_5 rfl ?_
    refine x_iloadn hX dX11_leaveTime_6 rfl ?_
    rcases cx1_of h with ⟨e_6, ee_6, h⟩ | ⟨r_4, er_4, h⟩
    · exact x_rs2 (f := ovi) h (x_xVt (t := 10) (As := [vi x2]) (rest := []) hX hN dX11_leaveTime_7 (c_X11_needZone (gk hX) (gl hX) hs x2 M _ ee_6) kX11_needZone vX11_needZone w_1424 (st0 hs) rfl rfl rfl rfl (Nat.le_of_ble_eq_true rfl) (Nat.le_of_ble_eq_true rfl) (Nat.le_of_ble_eq_true rfl))
    · refine x_xVr (t := 10) (As := [vi x2]) (rest := []) hX dX11_leaveTime_7 (c_X11_needZone (gk hX) (gl hX) hs x2 M _ er_4) kX11_needZone vX11_needZone w_1424 (st0 hs) rfl rfl rfl rfl (Nat.le_of_ble_eq_true rfl) (kf hN (a := 2) (b := 12) (Nat.le_of_ble_eq_true rfl) (Nat.le_of_ble_eq_true rfl)) ?_
      show V X 2 12 _ 10 [some (vr (xG X) 0), some (vi x1), some (vi x2)] [] M
      refine x_aloadn hX dX11_leaveTime_10 rfl ?_
      refine x_getRj (j := 49) hX dX11_leaveTime_11 fl_X11_40 rfl (st0 hs) rfl ?_
      refine x_aloadn hX dX11_leaveTime_14 rfl ?_
      refine x_getRj (j := 1) hX dX11_leaveTime_15 fl_X11_10 rfl (st0 hs) rfl ?_
      obtain ⟨M_8, er_7, h⟩ := cl1_of h
      refine x_callVv (t := 7) (As := [vr (xG X) 1]) (rest := []) hX dX11_leaveTime_18 (c_X7_runAll (gk hX) (gl hX) (st49 hs) (st1 hs) M _ er_7) kX7_runAll vX7_runAll w_671 (st49 hs) rfl rfl rfl rfl (Nat.le_of_ble_eq_true rfl) (kf hN (a := 2) (b := 12) (Nat.le_of_ble_eq_true rfl) (Nat.le_of_ble_eq_true rfl)) ?_
      refine x_aloadn hX dX11_leaveTime_21 rfl ?_
      refine x_getRj (j := 49) hX dX11_leaveTime_22 fl_X11_40 rfl (st0 hs) rfl ?_
      refine x_getRj (j := 68) hX dX11_leaveTime_25 fl_X11_281 rfl (st49 hs) rfl ?_
      refine x_iloadn hX dX11_leaveTime_28 rfl ?_
      obtain ⟨b_9, h⟩ := gi_of h
      refine x_aald2 hX dX11_leaveTime_29 (st68 hs) b_9 ?_
      refine x_iloadn hX dX11_leaveTime_30 rfl ?_
      obtain ⟨b_10, h⟩ := gi_of h
      refine x_iald hX dX11_leaveTime_31 (ro (gk hX) (st68 hs) b_9) b_10 rfl ?_
      cases h
      exact x_iretX hX dX11_leaveTime_32 (Nat.le_of_ble_eq_true rfl) (Nat.le_of_ble_eq_true rfl)
set_option maxRecDepth 100000 in
set_option maxHeartbeats 4000000 in
theorem ts_X11_blockedTime_20 {X : Cxt} (hX : Gd X RX11 cX11_blockedTime 4 (some .int) 6) (hN : NX X 1 6) (hs : SOK (xG X))  (x1 : Int) (M : Mem) (x2 : Int) (x3 : Int) {Q : State → Prop} (o : (Int × Int) ⊕ ((Int) ⊕ ((Nat ⊕ Int) × Mem))) (h : s_X11_blockedTime_20 x1 M x2 x3 = some o) (hP : ∀ y, o = .inl y → V X 1 6 Q 20 [some (vr (xG X) 0), some (vi x1), some (vi y.1), some (vi y.2)] [] M) (hE : ∀ z, o = .inr (.inl z) → V X 1 6 Q 78 [none, none, some (vi z), none] [] M) (hR : ∀ q, o = .inr (.inr q) → Q = Qx X 1 6 (ovi q.1) q.2) : V X 1 6 Q 20 [some (vr (xG X) 0), some (vi x1), some (vi x2), some (vi x3)] [] M := by
  unfold s_X11_blockedTime_20 at h
  refine x_iloadn hX dX11_blockedTime_20 rfl ?_
  refine x_aloadn hX dX11_blockedTime_21 rfl ?_
  refine x_getRj (j := 1) hX dX11_blockedTime_22 fl_X11_10 rfl (st0 hs) rfl ?_
  refine x_getRj (j := 17) hX dX11_blockedTime_25 fl_X11_159 rfl (st1 hs) rfl ?_
  refine x_getI hX dX11_blockedTime_28 fl_X11_168 rfl (st17 hs) ?_
  refine x_icmp_ge (tgt := 78) hX dX11_blockedTime_31 (by decide) rfl rfl (fun hc => ?_) (fun hc => ?_)
  · replace h := (if_pos hc).symm.trans h
    refine x_iloadn hX dX11_blockedTime_34 rfl ?_
    refine x_aloadn hX dX11_blockedTime_35 rfl ?_
    refine x_getRj (j := 49) hX dX11_blockedTime_36 fl_X11_40 rfl (st0 hs) rfl ?_
    refine x_getRj (j := 68) hX dX11_blockedTime_39 fl_X11_281 rfl (st49 hs) rfl ?_
    refine x_iloadn hX dX11_blockedTime_42 rfl ?_
    obtain ⟨b_6, h⟩ := gi_of h
    refine x_aald2 hX dX11_blockedTime_43 (st68 hs) b_6 ?_
    refine x_iloadn hX dX11_blockedTime_44 rfl ?_
    obtain ⟨b_7, h⟩ := gi_of h
    refine x_iald hX dX11_blockedTime_45 (ro (gk hX) (st68 hs) b_6) b_7 rfl ?_
    refine x_aloadn hX dX11_blockedTime_46 rfl ?_
    refine x_getRj (j := 49) hX dX11_blockedTime_47 fl_X11_40 rfl (st0 hs) rfl ?_
    refine x_getRj (j := 59) hX dX11_blockedTime_50 fl_X11_278 rfl (st49 hs) rfl ?_
    refine x_iloadn hX dX11_blockedTime_53 rfl ?_
    obtain ⟨b_8, h⟩ := gi_of h
    refine x_aald2 hX dX11_blockedTime_54 (st59 hs) b_8 ?_
    refine x_iloadn hX dX11_blockedTime_55 rfl ?_
    obtain ⟨b_9, h⟩ := gi_of h
    refine x_iald hX dX11_blockedTime_56 (ro (gk hX) (st59 hs) b_8) b_9 rfl ?_
    refine x_isub hX dX11_blockedTime_57 ?_
    refine x_aloadn hX dX11_blockedTime_58 rfl ?_
    refine x_getRj (j := 49) hX dX11_blockedTime_59 fl_X11_40 rfl (st0 hs) rfl ?_
    refine x_getRj (j := 50) hX dX11_blockedTime_62 fl_X11_271 rfl (st49 hs) rfl ?_
    refine x_iloadn hX dX11_blockedTime_65 rfl ?_
    obtain ⟨b_10, h⟩ := gi_of h
    refine x_aald2 hX dX11_blockedTime_66 (st50 hs) b_10 ?_
    refine x_iloadn hX dX11_blockedTime_67 rfl ?_
    obtain ⟨b_11, h⟩ := gi_of h
    refine x_iald hX dX11_blockedTime_68 (ro (gk hX) (st50 hs) b_10) b_11 rfl ?_
    refine x_isub hX dX11_blockedTime_69 ?_
    refine x_iadd hX dX11_blockedTime_70 ?_
    obtain ⟨x2_12, ex2_12, h⟩ := bnd_of h
    refine x_istoren (ls' := [some (vr (xG X) 0), some (vi x1), some (vi x2_12), some (vi x3)]) hX dX11_blockedTime_71 rfl ex2_12 rfl ?_
    obtain ⟨x3_13, ex3_13, h⟩ := bnd_of h
    refine x_iinc (ls' := [some (vr (xG X) 0), some (vi x1), some (vi x2_12), some (vi x3_13)]) hX dX11_blockedTime_72 rfl rfl ex3_13 rfl ?_
    refine x_goto (tgt := 20) hX dX11_blockedTime_75 (by decide) ?_
    exact x_weak [true, true, true, true] rfl (hP (x2_12, x3_13) (Option.some.inj h).symm)
  · replace h := (if_neg hc).symm.trans h
    exact x_weak [false, false, true, false] rfl (hE x2 (Option.some.inj h).symm)
set_option maxRecDepth 100000 in
set_option maxHeartbeats 4000000 in
theorem c_X11_blockedTime {l : Launch} {G : Gx} (hG : GOK G) (hl : l.stackTraces = false) (hs : SOK G)  (x1 : Int) (M : Mem) (r : Nat ⊕ Int) (Mr : Mem) (h : f_X11_blockedTime x1 M = some (r, Mr)) : Cx l G mX11_blockedTime 6 1 6 [vr G 0, vi x1] M (ovi r) Mr := by
  refine Cx_of2 (ls := [some (vr G 0), some (vi x1), none, none]) hG hl kX11_blockedTime rfl (Nat.le_of_ble_eq_true rfl) rfl rfl rfl rfl rfl (fun X eG el hX hN => ?_)
  subst eG; subst el
  unfold f_X11_blockedTime at h
  refine x_aloadn hX dX11_blockedTime_0 rfl ?_
  refine x_iloadn hX dX11_blockedTime_1 rfl ?_
  rcases cx1_of h with ⟨e_3, ee_3, h⟩ | ⟨r_1, er_1, h⟩
  · exact x_rs2 (f := ovi) h (x_xVt (t := 10) (As := [vi x1]) (rest := []) hX hN dX11_blockedTime_2 (c_X11_needZone (gk hX) (gl hX) hs x1 M _ ee_3) kX11_needZone vX11_needZone w_1424 (st0 hs) rfl rfl rfl rfl (Nat.le_of_ble_eq_true rfl) (Nat.le_of_ble_eq_true rfl) (Nat.le_of_ble_eq_true rfl))
  · refine x_xVr (t := 10) (As := [vi x1]) (rest := []) hX dX11_blockedTime_2 (c_X11_needZone (gk hX) (gl hX) hs x1 M _ er_1) kX11_needZone vX11_needZone w_1424 (st0 hs) rfl rfl rfl rfl (Nat.le_of_ble_eq_true rfl) (kf hN (a := 1) (b := 6) (Nat.le_of_ble_eq_true rfl) (Nat.le_of_ble_eq_true rfl)) ?_
    show V X 1 6 _ 5 [some (vr (xG X) 0), some (vi x1), none, none] [] M
    refine x_aloadn hX dX11_blockedTime_5 rfl ?_
    refine x_getRj (j := 49) hX dX11_blockedTime_6 fl_X11_40 rfl (st0 hs) rfl ?_
    refine x_aloadn hX dX11_blockedTime_9 rfl ?_
    refine x_getRj (j := 1) hX dX11_blockedTime_10 fl_X11_10 rfl (st0 hs) rfl ?_
    obtain ⟨M_5, er_4, h⟩ := cl1_of h
    refine x_callVv (t := 7) (As := [vr (xG X) 1]) (rest := []) hX dX11_blockedTime_13 (c_X7_runAll (gk hX) (gl hX) (st49 hs) (st1 hs) M _ er_4) kX7_runAll vX7_runAll w_671 (st49 hs) rfl rfl rfl rfl (Nat.le_of_ble_eq_true rfl) (kf hN (a := 1) (b := 6) (Nat.le_of_ble_eq_true rfl) (Nat.le_of_ble_eq_true rfl)) ?_
    refine x_iconst hX dX11_blockedTime_16 ?_
    refine x_istoren (ls' := [some (vr (xG X) 0), some (vi x1), some (vi 0), none]) hX dX11_blockedTime_17 rfl rfl rfl ?_
    refine x_iconst hX dX11_blockedTime_18 ?_
    refine x_istoren (ls' := [some (vr (xG X) 0), some (vi x1), some (vi 0), some (vi 0)]) hX dX11_blockedTime_19 rfl rfl rfl ?_
    refine x_weak (ls' := [some (vr (xG X) 0), some (vi x1), some (vi 0), some (vi 0)]) [true, true, true, true] rfl ?_
    refine lp_use (x := (0, 0)) (P := fun x => V X 1 6 (Qx X 1 6 (ovi r) Mr) 20 [some (vr (xG X) 0), some (vi x1), some (vi x.1), some (vi x.2)] [] M_5) (PE := fun z_14 => V X 1 6 (Qx X 1 6 (ovi r) Mr) 78 [none, none, some (vi z_14), none] [] M_5) (PR := fun q => (Qx X 1 6 (ovi r) Mr) = Qx X 1 6 (ovi q.1) q.2) h (fun x o hh hP hE hR => ts_X11_blockedTime_20 hX hN hs x1 M_5 x.1 x.2 o hh hP hE hR) (fun z_14 h => ?_) (fun q h => ?_)
    · show V X 1 6 (Qx X 1 6 (ovi r) Mr) 78 [none, none, some (vi z_14), none] [] M_5
      refine x_iloadn hX dX11_blockedTime_78 rfl ?_
      cases h
      exact x_iretX hX dX11_blockedTime_79 (Nat.le_of_ble_eq_true rfl) (Nat.le_of_ble_eq_true rfl)
    · cases h; rfl
set_option maxRecDepth 100000 in
set_option maxHeartbeats 4000000 in
theorem c_X11_makespan {l : Launch} {G : Gx} (hG : GOK G) (hl : l.stackTraces = false) (hs : SOK G)  (M : Mem) (r : Int) (Mr : Mem) (h : f_X11_makespan M = some (r, Mr)) : Cn l G mX11_makespan 6 [vr G 0] M (some (vi r)) Mr := by
  refine Cn_of2 (ls := [some (vr G 0)]) hG hl kX11_makespan rfl (Nat.le_of_ble_eq_true rfl) rfl rfl rfl rfl rfl (fun X eG el hX => ?_)
  subst eG; subst el
  unfold f_X11_makespan at h
  refine x_aloadn hX dX11_makespan_0 rfl ?_
  refine x_getRj (j := 1) hX dX11_makespan_1 fl_X11_10 rfl (st0 hs) rfl ?_
  refine x_getRj (j := 17) hX dX11_makespan_4 fl_X11_159 rfl (st1 hs) rfl ?_
  refine x_getI hX dX11_makespan_7 fl_X11_168 rfl (st17 hs) ?_
  refine x_if_ne (tgt := 15) hX dX11_makespan_10 (by decide) rfl (fun hc => ?_) (fun hc => ?_)
  · replace h := (if_pos hc).symm.trans h
    refine x_iconst hX dX11_makespan_13 ?_
    cases h
    exact x_iret hX dX11_makespan_14 rfl
  · replace h := (if_neg hc).symm.trans h
    refine x_aloadn hX dX11_makespan_15 rfl ?_
    refine x_getRj (j := 49) hX dX11_makespan_16 fl_X11_40 rfl (st0 hs) rfl ?_
    refine x_aloadn hX dX11_makespan_19 rfl ?_
    refine x_getRj (j := 1) hX dX11_makespan_20 fl_X11_10 rfl (st0 hs) rfl ?_
    obtain ⟨M_2, er_1, h⟩ := cl1_of h
    refine x_callVv (t := 7) (As := [vr (xG X) 1]) (rest := []) hX dX11_makespan_23 (c_X7_runAll (gk hX) (gl hX) (st49 hs) (st1 hs) M _ er_1) kX7_runAll vX7_runAll w_671 (st49 hs) rfl rfl rfl rfl (Nat.le_of_ble_eq_true rfl) z0 ?_
    refine x_aloadn hX dX11_makespan_26 rfl ?_
    refine x_getRj (j := 49) hX dX11_makespan_27 fl_X11_40 rfl (st0 hs) rfl ?_
    refine x_aloadn hX dX11_makespan_30 rfl ?_
    refine x_getRj (j := 1) hX dX11_makespan_31 fl_X11_10 rfl (st0 hs) rfl ?_
    refine x_getRj (j := 2) hX dX11_makespan_34 fl_X11_79 rfl (st1 hs) rfl ?_
    refine x_aloadn hX dX11_makespan_37 rfl ?_
    refine x_getRj (j := 1) hX dX11_makespan_38 fl_X11_10 rfl (st0 hs) rfl ?_
    refine x_getRj (j := 17) hX dX11_makespan_41 fl_X11_159 rfl (st1 hs) rfl ?_
    refine x_getI hX dX11_makespan_44 fl_X11_168 rfl (st17 hs) ?_
    refine x_iconst hX dX11_makespan_47 ?_
    refine x_isub hX dX11_makespan_48 ?_
    obtain ⟨r_3, er_3, h⟩ := cl1_of h
    refine x_callVi (t := 7) (As := [vr (xG X) 2, vi ((M_2 17 0) - 1)]) (rest := []) hX dX11_makespan_49 (c_X7_completion (gk hX) (gl hX) (st49 hs) (st2 hs) ((M_2 17 0) - 1) M_2 _ er_3) kX7_completion vX7_completion w_694 (st49 hs) rfl rfl rfl rfl (Nat.le_of_ble_eq_true rfl) z0 ?_
    cases h
    exact x_iret hX dX11_makespan_52 rfl
set_option maxRecDepth 100000 in
set_option maxHeartbeats 4000000 in
theorem c_X11_lateness {l : Launch} {G : Gx} (hG : GOK G) (hl : l.stackTraces = false) (hs : SOK G)  (x1 : Int) (M : Mem) (r : Nat ⊕ Int) (Mr : Mem) (h : f_X11_lateness x1 M = some (r, Mr)) : Cx l G mX11_lateness 6 2 12 [vr G 0, vi x1] M (ovi r) Mr := by
  refine Cx_of2 (ls := [some (vr G 0), some (vi x1), none]) hG hl kX11_lateness rfl (Nat.le_of_ble_eq_true rfl) rfl rfl rfl rfl rfl (fun X eG el hX hN => ?_)
  subst eG; subst el
  unfold f_X11_lateness at h
  refine x_aloadn hX dX11_lateness_0 rfl ?_
  refine x_iloadn hX dX11_lateness_1 rfl ?_
  rcases cx1_of h with ⟨e_3, ee_3, h⟩ | ⟨r_1, er_1, h⟩
  · exact x_rs2 (f := ovi) h (x_xVt (t := 10) (As := [vi x1]) (rest := []) hX hN dX11_lateness_2 (c_X11_needOrder (gk hX) (gl hX) hs x1 M _ ee_3) kX11_needOrder vX11_needOrder w_1123 (st0 hs) rfl rfl rfl rfl (Nat.le_of_ble_eq_true rfl) (Nat.le_of_ble_eq_true rfl) (Nat.le_of_ble_eq_true rfl))
  · refine x_xVr (t := 10) (As := [vi x1]) (rest := []) hX dX11_lateness_2 (c_X11_needOrder (gk hX) (gl hX) hs x1 M _ er_1) kX11_needOrder vX11_needOrder w_1123 (st0 hs) rfl rfl rfl rfl (Nat.le_of_ble_eq_true rfl) (kf hN (a := 1) (b := 6) (Nat.le_of_ble_eq_true rfl) (Nat.le_of_ble_eq_true rfl)) ?_
    show V X 1 6 _ 5 [some (vr (xG X) 0), some (vi x1), none] [] M
    refine x_aloadn hX dX11_lateness_5 rfl ?_
    refine x_getRj (j := 1) hX dX11_lateness_6 fl_X11_10 rfl (st0 hs) rfl ?_
    refine x_getRj (j := 17) hX dX11_lateness_9 fl_X11_159 rfl (st1 hs) rfl ?_
    refine x_iloadn hX dX11_lateness_12 rfl ?_
    obtain ⟨r_4, er_4, h⟩ := cl1_of h
    refine x_callVi (t := 0) (As := [vi x1]) (rest := []) hX dX11_lateness_13 (c_X0_batchWith (gk hX) (gl hX) (st17 hs) x1 M _ er_4) kX0_batchWith vX0_batchWith w_1531 (st17 hs) rfl rfl rfl rfl (Nat.le_of_ble_eq_true rfl) (kf hN (a := 1) (b := 6) (Nat.le_of_ble_eq_true rfl) (Nat.le_of_ble_eq_true rfl)) ?_
    refine x_istoren (ls' := [some (vr (xG X) 0), some (vi x1), some (vi r_4)]) hX dX11_lateness_16 rfl rfl rfl ?_
    refine x_iloadn hX dX11_lateness_17 rfl ?_
    refine x_iconst hX dX11_lateness_18 ?_
    refine x_icmp_ne (tgt := 33) hX dX11_lateness_19 (by decide) rfl cw_m1 (fun hc => ?_) (fun hc => ?_)
    · replace h := (if_pos hc).symm.trans h
      cases h
      exact x_thrW (x := 1) (k' := 22) hX hN dX11_lateness_22 dX11_lateness_25 dX11_lateness_26 dX11_lateness_29 dX11_lateness_32 thr_72_76 rfl (Nat.le_of_ble_eq_true rfl) (Nat.le_of_ble_eq_true rfl) (Nat.le_of_ble_eq_true rfl)
    · replace h := (if_neg hc).symm.trans h
      refine x_aloadn hX dX11_lateness_33 rfl ?_
      refine x_getRj (j := 49) hX dX11_lateness_34 fl_X11_40 rfl (st0 hs) rfl ?_
      refine x_aloadn hX dX11_lateness_37 rfl ?_
      refine x_getRj (j := 1) hX dX11_lateness_38 fl_X11_10 rfl (st0 hs) rfl ?_
      obtain ⟨M_7, er_6, h⟩ := cl1_of h
      refine x_callVv (t := 7) (As := [vr (xG X) 1]) (rest := []) hX dX11_lateness_41 (c_X7_runAll (gk hX) (gl hX) (st49 hs) (st1 hs) M _ er_6) kX7_runAll vX7_runAll w_671 (st49 hs) rfl rfl rfl rfl (Nat.le_of_ble_eq_true rfl) (kf hN (a := 1) (b := 6) (Nat.le_of_ble_eq_true rfl) (Nat.le_of_ble_eq_true rfl)) ?_
      refine x_aloadn hX dX11_lateness_44 rfl ?_
      refine x_getRj (j := 49) hX dX11_lateness_45 fl_X11_40 rfl (st0 hs) rfl ?_
      refine x_aloadn hX dX11_lateness_48 rfl ?_
      refine x_getRj (j := 1) hX dX11_lateness_49 fl_X11_10 rfl (st0 hs) rfl ?_
      refine x_getRj (j := 2) hX dX11_lateness_52 fl_X11_79 rfl (st1 hs) rfl ?_
      refine x_iloadn hX dX11_lateness_55 rfl ?_
      obtain ⟨r_8, er_8, h⟩ := cl1_of h
      refine x_callVi (t := 7) (As := [vr (xG X) 2, vi r_4]) (rest := []) hX dX11_lateness_56 (c_X7_completion (gk hX) (gl hX) (st49 hs) (st2 hs) r_4 M_7 _ er_8) kX7_completion vX7_completion w_694 (st49 hs) rfl rfl rfl rfl (Nat.le_of_ble_eq_true rfl) (kf hN (a := 1) (b := 6) (Nat.le_of_ble_eq_true rfl) (Nat.le_of_ble_eq_true rfl)) ?_
      refine x_aloadn hX dX11_lateness_59 rfl ?_
      refine x_getRj (j := 1) hX dX11_lateness_60 fl_X11_10 rfl (st0 hs) rfl ?_
      refine x_getRj (j := 10) hX dX11_lateness_63 fl_X11_118 rfl (st1 hs) rfl ?_
      refine x_getRj (j := 11) hX dX11_lateness_66 fl_X11_147 rfl (st10 hs) rfl ?_
      refine x_iloadn hX dX11_lateness_69 rfl ?_
      obtain ⟨b_10, h⟩ := gi_of h
      refine x_iald hX dX11_lateness_70 (st11 hs) b_10 rfl ?_
      refine x_isub hX dX11_lateness_71 ?_
      cases h
      exact x_iretX hX dX11_lateness_72 (Nat.le_of_ble_eq_true rfl) (Nat.le_of_ble_eq_true rfl)
