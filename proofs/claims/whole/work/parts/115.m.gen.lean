-- written by wip/gen/emit.py: X12_laysSpots, X12_laysAisles, X12_bestChoice, X12_gapOf, X12_zoneOf, X12_isPart, X12_goesUp, X12_goesDown, X12_laysTimes, X12_tardiness, X12_earliestOf, X12_pickBatch
set_option maxRecDepth 100000 in
set_option maxHeartbeats 4000000 in
theorem ts_X12_laysSpots_2 {X : Cxt} (hX : Gd X RX12 cX12_laysSpots 5 (none) 3) (hs : SOK (xG X))  (x1 : Int) (x2 : Int) (M : Mem) {Q : State → Prop} (o : (Int × Mem) ⊕ ((Mem) ⊕ (Mem))) (h : s_X12_laysSpots_2 x1 x2 M = some o) (hP : ∀ y, o = .inl y → V X 0 0 Q 2 [some (vr (xG X) 139), some (vi x1), some (vi y.1), none, none] [] y.2) (hE : ∀ z, o = .inr (.inl z) → V X 0 0 Q 21 [some (vr (xG X) 139), some (vi x1), none, none, none] [] z) (hR : ∀ q, o = .inr (.inr q) → Q = Qn X none q) : V X 0 0 Q 2 [some (vr (xG X) 139), some (vi x1), some (vi x2), none, none] [] M := by
  unfold s_X12_laysSpots_2 at h
  refine x_iloadn hX dX12_laysSpots_2 rfl ?_
  refine x_bipush hX dX12_laysSpots_3 bp_126 ?_
  refine x_icmp_ge (tgt := 21) hX dX12_laysSpots_5 (by decide) rfl cw_126 (fun hc => ?_) (fun hc => ?_)
  · replace h := (if_pos hc).symm.trans h
    refine x_aloadn hX dX12_laysSpots_8 rfl ?_
    refine x_getRj (j := 144) hX dX12_laysSpots_9 fl_X12_23 rfl (st139 hs) rfl ?_
    refine x_iloadn hX dX12_laysSpots_12 rfl ?_
    refine x_iconst hX dX12_laysSpots_13 ?_
    obtain ⟨b_2, h⟩ := gi_of h
    obtain ⟨M_1, eM_1, h⟩ := bnd_of h
    refine x_zast hX dX12_laysSpots_14 (st144 hs) b_2 rfl (x_meq eM_1 ?_)
    obtain ⟨x2_3, ex2_3, h⟩ := bnd_of h
    refine x_iinc (ls' := [some (vr (xG X) 139), some (vi x1), some (vi x2_3), none, none]) hX dX12_laysSpots_15 rfl rfl ex2_3 rfl ?_
    refine x_goto (tgt := 2) hX dX12_laysSpots_18 (by decide) ?_
    exact x_weak [true, true, true, false, false] rfl (hP (x2_3, M_1) (Option.some.inj h).symm)
  · replace h := (if_neg hc).symm.trans h
    exact x_weak [true, true, false, false, false] rfl (hE M (Option.some.inj h).symm)
set_option maxRecDepth 100000 in
set_option maxHeartbeats 4000000 in
theorem ts_X12_laysSpots_23 {X : Cxt} (hX : Gd X RX12 cX12_laysSpots 5 (none) 3) (hs : SOK (xG X))  (x1 : Int) (x2 : Int) (M : Mem) {Q : State → Prop} (o : (Int × Mem) ⊕ ((Mem) ⊕ (Mem))) (h : s_X12_laysSpots_23 x1 x2 M = some o) (hP : ∀ y, o = .inl y → V X 0 0 Q 23 [some (vr (xG X) 139), some (vi x1), some (vi y.1), none, none] [] y.2) (hE : ∀ z, o = .inr (.inl z) → V X 0 0 Q 42 [some (vr (xG X) 139), some (vi x1), none, none, none] [] z) (hR : ∀ q, o = .inr (.inr q) → Q = Qn X none q) : V X 0 0 Q 23 [some (vr (xG X) 139), some (vi x1), some (vi x2), none, none] [] M := by
  unfold s_X12_laysSpots_23 at h
  refine x_iloadn hX dX12_laysSpots_23 rfl ?_
  refine x_bipush hX dX12_laysSpots_24 bp_24 ?_
  refine x_icmp_ge (tgt := 42) hX dX12_laysSpots_26 (by decide) rfl cw_24 (fun hc => ?_) (fun hc => ?_)
  · replace h := (if_pos hc).symm.trans h
    refine x_aloadn hX dX12_laysSpots_29 rfl ?_
    refine x_getRj (j := 145) hX dX12_laysSpots_30 fl_X12_26 rfl (st139 hs) rfl ?_
    refine x_iloadn hX dX12_laysSpots_33 rfl ?_
    refine x_iconst hX dX12_laysSpots_34 ?_
    obtain ⟨b_6, h⟩ := gi_of h
    obtain ⟨M_5, eM_5, h⟩ := bnd_of h
    refine x_zast hX dX12_laysSpots_35 (st145 hs) b_6 rfl (x_meq eM_5 ?_)
    obtain ⟨x2_7, ex2_7, h⟩ := bnd_of h
    refine x_iinc (ls' := [some (vr (xG X) 139), some (vi x1), some (vi x2_7), none, none]) hX dX12_laysSpots_36 rfl rfl ex2_7 rfl ?_
    refine x_goto (tgt := 23) hX dX12_laysSpots_39 (by decide) ?_
    exact x_weak [true, true, true, false, false] rfl (hP (x2_7, M_5) (Option.some.inj h).symm)
  · replace h := (if_neg hc).symm.trans h
    exact x_weak [true, true, false, false, false] rfl (hE M (Option.some.inj h).symm)
set_option maxRecDepth 100000 in
set_option maxHeartbeats 4000000 in
theorem ts_X12_laysSpots_52 {X : Cxt} (hX : Gd X RX12 cX12_laysSpots 5 (none) 3) (hs : SOK (xG X))  (x1 : Int) (x2 : Int) (x3 : Int) (M : Mem) {Q : State → Prop} (o : (Int × Mem) ⊕ ((Mem) ⊕ (Mem))) (h : s_X12_laysSpots_52 x1 x2 x3 M = some o) (hP : ∀ y, o = .inl y → V X 0 0 Q 52 [some (vr (xG X) 139), some (vi x1), some (vi x2), some (vi y.1), none] [] y.2) (hE : ∀ z, o = .inr (.inl z) → V X 0 0 Q 120 [some (vr (xG X) 139), some (vi x1), some (vi x2), none, none] [] z) (hR : ∀ q, o = .inr (.inr q) → Q = Qn X none q) : V X 0 0 Q 52 [some (vr (xG X) 139), some (vi x1), some (vi x2), some (vi x3), none] [] M := by
  unfold s_X12_laysSpots_52 at h
  refine x_iloadn hX dX12_laysSpots_52 rfl ?_
  refine x_iloadn hX dX12_laysSpots_53 rfl ?_
  obtain ⟨r_9, er_9, h⟩ := cl1_of h
  refine x_callSi (As := [vi x1, vi x2]) (rest := []) hX dX12_laysSpots_54 (c_X12_has (gk hX) (gl hX) x1 x2 M _ er_9) kX12_has sX12_has w_1868 rfl rfl rfl (Nat.le_of_ble_eq_true rfl) z0 ?_
  refine x_if_eq (tgt := 120) hX dX12_laysSpots_57 (by decide) rfl (fun hc => ?_) (fun hc => ?_)
  · replace h := (if_pos hc).symm.trans h
    exact x_weak [true, true, true, false, false] rfl (hE M (Option.some.inj h).symm)
  · replace h := (if_neg hc).symm.trans h
    refine x_iloadn hX dX12_laysSpots_60 rfl ?_
    refine x_aloadn hX dX12_laysSpots_61 rfl ?_
    refine x_iloadn hX dX12_laysSpots_62 rfl ?_
    refine x_iconst hX dX12_laysSpots_63 ?_
    obtain ⟨r_11, er_11, h⟩ := cl1_of h
    refine x_callVi (t := 11) (As := [vi x2, vi 2]) (rest := [vi x3]) hX dX12_laysSpots_64 (c_X12_ofOrder (gk hX) (gl hX) hs x2 2 M _ er_11) kX12_ofOrder vX12_ofOrder w_1797 (st139 hs) rfl rfl rfl rfl (Nat.le_of_ble_eq_true rfl) z0 ?_
    refine x_icmp_ge (tgt := 120) hX dX12_laysSpots_67 (by decide) rfl rfl (fun hc => ?_) (fun hc => ?_)
    · replace h := (if_pos hc).symm.trans h
      refine x_aloadn hX dX12_laysSpots_70 rfl ?_
      refine x_getRj (j := 140) hX dX12_laysSpots_71 fl_X12_7 rfl (st139 hs) rfl ?_
      refine x_iloadn hX dX12_laysSpots_74 rfl ?_
      refine x_iloadn hX dX12_laysSpots_75 rfl ?_
      obtain ⟨r_13, er_13, h⟩ := cl1_of h
      refine x_callSi (As := [vi x2, vi x3]) (rest := [vr (xG X) 140]) hX dX12_laysSpots_76 (c_X12_lineAt (gk hX) (gl hX) x2 x3 M _ er_13) kX12_lineAt sX12_lineAt w_1805 rfl rfl rfl (Nat.le_of_ble_eq_true rfl) z0 ?_
      obtain ⟨b_15, h⟩ := gi_of h
      refine x_iald hX dX12_laysSpots_79 (st140 hs) b_15 rfl ?_
      obtain ⟨x4_16, ex4_16, h⟩ := bnd_of h
      refine x_istore (ls' := [some (vr (xG X) 139), some (vi x1), some (vi x2), some (vi x3), some (vi x4_16)]) hX dX12_laysSpots_80 rfl ex4_16 rfl ?_
      refine x_aloadn hX dX12_laysSpots_82 rfl ?_
      refine x_getRj (j := 145) hX dX12_laysSpots_83 fl_X12_26 rfl (st139 hs) rfl ?_
      refine x_iload hX dX12_laysSpots_86 rfl ?_
      refine x_iconst hX dX12_laysSpots_88 ?_
      obtain ⟨b_18, h⟩ := gi_of h
      obtain ⟨M_17, eM_17, h⟩ := bnd_of h
      refine x_zast hX dX12_laysSpots_89 (st145 hs) b_18 rfl (x_meq eM_17 ?_)
      refine x_aloadn hX dX12_laysSpots_90 rfl ?_
      refine x_getRj (j := 144) hX dX12_laysSpots_91 fl_X12_23 rfl (st139 hs) rfl ?_
      refine x_bipush hX dX12_laysSpots_94 bp_21 ?_
      refine x_aloadn hX dX12_laysSpots_96 rfl ?_
      refine x_iload hX dX12_laysSpots_97 rfl ?_
      refine x_iconst hX dX12_laysSpots_99 ?_
      obtain ⟨r_19, er_19, h⟩ := cl1_of h
      refine x_callVi (t := 11) (As := [vi x4_16, vi 0]) (rest := [vi 21, vr (xG X) 144]) hX dX12_laysSpots_100 (c_X12_ofItem (gk hX) (gl hX) hs x4_16 0 M_17 _ er_19) kX12_ofItem vX12_ofItem w_1770 (st139 hs) rfl rfl rfl rfl (Nat.le_of_ble_eq_true rfl) z0 ?_
      refine x_imul hX dX12_laysSpots_103 ?_
      refine x_aloadn hX dX12_laysSpots_104 rfl ?_
      refine x_iload hX dX12_laysSpots_105 rfl ?_
      refine x_iconst hX dX12_laysSpots_107 ?_
      obtain ⟨r_21, er_21, h⟩ := cl1_of h
      refine x_callVi (t := 11) (As := [vi x4_16, vi 1]) (rest := [vi (21 * r_19), vr (xG X) 144]) hX dX12_laysSpots_108 (c_X12_ofItem (gk hX) (gl hX) hs x4_16 1 M_17 _ er_21) kX12_ofItem vX12_ofItem w_1770 (st139 hs) rfl rfl rfl rfl (Nat.le_of_ble_eq_true rfl) z0 ?_
      refine x_iadd hX dX12_laysSpots_111 ?_
      refine x_iconst hX dX12_laysSpots_112 ?_
      obtain ⟨b_24, h⟩ := gi_of h
      obtain ⟨M_23, eM_23, h⟩ := bnd_of h
      refine x_zast hX dX12_laysSpots_113 (st144 hs) b_24 rfl (x_meq eM_23 ?_)
      obtain ⟨x3_25, ex3_25, h⟩ := bnd_of h
      refine x_iinc (ls' := [some (vr (xG X) 139), some (vi x1), some (vi x2), some (vi x3_25), some (vi x4_16)]) hX dX12_laysSpots_114 rfl rfl ex3_25 rfl ?_
      refine x_goto (tgt := 52) hX dX12_laysSpots_117 (by decide) ?_
      exact x_weak [true, true, true, true, false] rfl (hP (x3_25, M_23) (Option.some.inj h).symm)
    · replace h := (if_neg hc).symm.trans h
      exact x_weak [true, true, true, false, false] rfl (hE M (Option.some.inj h).symm)
set_option maxRecDepth 100000 in
set_option maxHeartbeats 4000000 in
theorem tj_X12_laysSpots_120_44 {X : Cxt} (hX : Gd X RX12 cX12_laysSpots 5 (none) 3) (hs : SOK (xG X))   (x1 : Int) (x2 : Int) (M : Mem) {Q : State → Prop} (o : (Int × Mem) ⊕ ((Mem) ⊕ (Mem))) (h : j_X12_laysSpots_120_44 x1 x2 M = some o) (hP : ∀ y, o = .inl y → V X 0 0 Q 44 [some (vr (xG X) 139), some (vi x1), some (vi y.1), none, none] [] y.2) (hE : ∀ z, o = .inr (.inl z) → V X 0 0 Q 126 [none, none, none, none, none] [] z) (hR : ∀ q, o = .inr (.inr q) → Q = Qn X none q) : V X 0 0 Q 120 [some (vr (xG X) 139), some (vi x1), some (vi x2), none, none] [] M := by
  unfold j_X12_laysSpots_120_44 at h
  obtain ⟨x2_27, ex2_27, h⟩ := bnd_of h
  refine x_iinc (ls' := [some (vr (xG X) 139), some (vi x1), some (vi x2_27), none, none]) hX dX12_laysSpots_120 rfl rfl ex2_27 rfl ?_
  refine x_goto (tgt := 44) hX dX12_laysSpots_123 (by decide) ?_
  exact x_weak [true, true, true, false, false] rfl (hP (x2_27, M) (Option.some.inj h).symm)
set_option maxRecDepth 100000 in
set_option maxHeartbeats 4000000 in
theorem ts_X12_laysSpots_44 {X : Cxt} (hX : Gd X RX12 cX12_laysSpots 5 (none) 3) (hs : SOK (xG X))  (x1 : Int) (x2 : Int) (M : Mem) {Q : State → Prop} (o : (Int × Mem) ⊕ ((Mem) ⊕ (Mem))) (h : s_X12_laysSpots_44 x1 x2 M = some o) (hP : ∀ y, o = .inl y → V X 0 0 Q 44 [some (vr (xG X) 139), some (vi x1), some (vi y.1), none, none] [] y.2) (hE : ∀ z, o = .inr (.inl z) → V X 0 0 Q 126 [none, none, none, none, none] [] z) (hR : ∀ q, o = .inr (.inr q) → Q = Qn X none q) : V X 0 0 Q 44 [some (vr (xG X) 139), some (vi x1), some (vi x2), none, none] [] M := by
  unfold s_X12_laysSpots_44 at h
  refine x_iloadn hX dX12_laysSpots_44 rfl ?_
  refine x_bipush hX dX12_laysSpots_45 bp_16 ?_
  refine x_icmp_ge (tgt := 126) hX dX12_laysSpots_47 (by decide) rfl cw_16 (fun hc => ?_) (fun hc => ?_)
  · replace h := (if_pos hc).symm.trans h
    refine x_iconst hX dX12_laysSpots_50 ?_
    refine x_istoren (ls' := [some (vr (xG X) 139), some (vi x1), some (vi x2), some (vi 0), none]) hX dX12_laysSpots_51 rfl rfl rfl ?_
    refine x_weak (ls' := [some (vr (xG X) 139), some (vi x1), some (vi x2), some (vi 0), none]) [true, true, true, true, false] rfl ?_
    refine lp_use (x := (0, M)) (P := fun x => V X 0 0 Q 52 [some (vr (xG X) 139), some (vi x1), some (vi x2), some (vi x.1), none] [] x.2) (PE := fun z_26 => V X 0 0 Q 120 [some (vr (xG X) 139), some (vi x1), some (vi x2), none, none] [] z_26) (PR := fun q => Q = Qn X none q) h (fun x o hh hP hE hR => ts_X12_laysSpots_52 hX hs x1 x2 x.1 x.2 o hh hP hE hR) (fun z_26 h => ?_) (fun q h => ?_)
    · show V X 0 0 Q 120 [some (vr (xG X) 139), some (vi x1), some (vi x2), none, none] [] z_26
      exact x_weak [true, true, true, false, false] rfl (tj_X12_laysSpots_120_44 hX hs x1 x2 z_26 o h hP hE hR)
    · exact hR q (Option.some.inj h).symm
  · replace h := (if_neg hc).symm.trans h
    exact x_weak [false, false, false, false, false] rfl (hE M (Option.some.inj h).symm)
set_option maxRecDepth 100000 in
set_option maxHeartbeats 4000000 in
theorem c_X12_laysSpots {l : Launch} {G : Gx} (hG : GOK G) (hl : l.stackTraces = false) (hs : SOK G)  (x1 : Int) (M : Mem) (Mr : Mem) (h : f_X12_laysSpots x1 M = some Mr) : Cn l G mX12_laysSpots 3 [vr G 139, vi x1] M none Mr := by
  refine Cn_of2 (ls := [some (vr G 139), some (vi x1), none, none, none]) hG hl kX12_laysSpots rfl (Nat.le_of_ble_eq_true rfl) rfl rfl rfl rfl rfl (fun X eG el hX => ?_)
  subst eG; subst el
  unfold f_X12_laysSpots at h
  refine x_iconst hX dX12_laysSpots_0 ?_
  refine x_istoren (ls' := [some (vr (xG X) 139), some (vi x1), some (vi 0), none, none]) hX dX12_laysSpots_1 rfl rfl rfl ?_
  refine x_weak (ls' := [some (vr (xG X) 139), some (vi x1), some (vi 0), none, none]) [true, true, true, false, false] rfl ?_
  refine lp_use (x := (0, M)) (P := fun x => V X 0 0 (Qn X none Mr) 2 [some (vr (xG X) 139), some (vi x1), some (vi x.1), none, none] [] x.2) (PE := fun z_4 => V X 0 0 (Qn X none Mr) 21 [some (vr (xG X) 139), some (vi x1), none, none, none] [] z_4) (PR := fun q => (Qn X none Mr) = Qn X none q) h (fun x o hh hP hE hR => ts_X12_laysSpots_2 hX hs x1 x.1 x.2 o hh hP hE hR) (fun z_4 h => ?_) (fun q h => ?_)
  · show V X 0 0 (Qn X none Mr) 21 [some (vr (xG X) 139), some (vi x1), none, none, none] [] z_4
    refine x_iconst hX dX12_laysSpots_21 ?_
    refine x_istoren (ls' := [some (vr (xG X) 139), some (vi x1), some (vi 0), none, none]) hX dX12_laysSpots_22 rfl rfl rfl ?_
    refine x_weak (ls' := [some (vr (xG X) 139), some (vi x1), some (vi 0), none, none]) [true, true, true, false, false] rfl ?_
    refine lp_use (x := (0, z_4)) (P := fun x => V X 0 0 (Qn X none Mr) 23 [some (vr (xG X) 139), some (vi x1), some (vi x.1), none, none] [] x.2) (PE := fun z_8 => V X 0 0 (Qn X none Mr) 42 [some (vr (xG X) 139), some (vi x1), none, none, none] [] z_8) (PR := fun q => (Qn X none Mr) = Qn X none q) h (fun x o hh hP hE hR => ts_X12_laysSpots_23 hX hs x1 x.1 x.2 o hh hP hE hR) (fun z_8 h => ?_) (fun q h => ?_)
    · show V X 0 0 (Qn X none Mr) 42 [some (vr (xG X) 139), some (vi x1), none, none, none] [] z_8
      refine x_iconst hX dX12_laysSpots_42 ?_
      refine x_istoren (ls' := [some (vr (xG X) 139), some (vi x1), some (vi 0), none, none]) hX dX12_laysSpots_43 rfl rfl rfl ?_
      refine x_weak (ls' := [some (vr (xG X) 139), some (vi x1), some (vi 0), none, none]) [true, true, true, false, false] rfl ?_
      refine lp_use (x := (0, z_8)) (P := fun x => V X 0 0 (Qn X none Mr) 44 [some (vr (xG X) 139), some (vi x1), some (vi x.1), none, none] [] x.2) (PE := fun z_28 => V X 0 0 (Qn X none Mr) 126 [none, none, none, none, none] [] z_28) (PR := fun q => (Qn X none Mr) = Qn X none q) h (fun x o hh hP hE hR => ts_X12_laysSpots_44 hX hs x1 x.1 x.2 o hh hP hE hR) (fun z_28 h => ?_) (fun q h => ?_)
      · show V X 0 0 (Qn X none Mr) 126 [none, none, none, none, none] [] z_28
        cases h
        exact x_vret hX dX12_laysSpots_126 rfl
      · cases h; rfl
    · cases h; rfl
  · cases h; rfl
set_option maxRecDepth 100000 in
set_option maxHeartbeats 4000000 in
theorem tj_X12_laysAisles_48_11 {X : Cxt} (hX : Gd X RX12 cX12_laysAisles 3 (none) 3) (hs : SOK (xG X))   (x1 : Int) (x2 : Int) (M : Mem) {Q : State → Prop} (o : (Int × Mem) ⊕ ((Mem) ⊕ (Mem))) (h : j_X12_laysAisles_48_11 x1 x2 M = some o) (hP : ∀ y, o = .inl y → V X 0 0 Q 11 [some (vr (xG X) 139), some (vi x1), some (vi y.1)] [] y.2) (hE : ∀ z, o = .inr (.inl z) → V X 0 0 Q 54 [none, none, none] [] z) (hR : ∀ q, o = .inr (.inr q) → Q = Qn X none q) : V X 0 0 Q 48 [some (vr (xG X) 139), some (vi x1), some (vi x2)] [] M := by
  unfold j_X12_laysAisles_48_11 at h
  obtain ⟨x2_11, ex2_11, h⟩ := bnd_of h
  refine x_iinc (ls' := [some (vr (xG X) 139), some (vi x1), some (vi x2_11)]) hX dX12_laysAisles_48 rfl rfl ex2_11 rfl ?_
  refine x_goto (tgt := 11) hX dX12_laysAisles_51 (by decide) ?_
  exact x_weak [true, true, true] rfl (hP (x2_11, M) (Option.some.inj h).symm)
set_option maxRecDepth 100000 in
set_option maxHeartbeats 4000000 in
theorem ts_X12_laysAisles_11 {X : Cxt} (hX : Gd X RX12 cX12_laysAisles 3 (none) 3) (hs : SOK (xG X))  (x1 : Int) (x2 : Int) (M : Mem) {Q : State → Prop} (o : (Int × Mem) ⊕ ((Mem) ⊕ (Mem))) (h : s_X12_laysAisles_11 x1 x2 M = some o) (hP : ∀ y, o = .inl y → V X 0 0 Q 11 [some (vr (xG X) 139), some (vi x1), some (vi y.1)] [] y.2) (hE : ∀ z, o = .inr (.inl z) → V X 0 0 Q 54 [none, none, none] [] z) (hR : ∀ q, o = .inr (.inr q) → Q = Qn X none q) : V X 0 0 Q 11 [some (vr (xG X) 139), some (vi x1), some (vi x2)] [] M := by
  unfold s_X12_laysAisles_11 at h
  refine x_iloadn hX dX12_laysAisles_11 rfl ?_
  refine x_aloadn hX dX12_laysAisles_12 rfl ?_
  refine x_iloadn hX dX12_laysAisles_13 rfl ?_
  obtain ⟨r_4, er_4, h⟩ := cl1_of h
  refine x_callVi (t := 11) (As := [vi x1]) (rest := [vi x2]) hX dX12_laysAisles_14 (c_X12_behind (gk hX) (gl hX) hs x1 M _ er_4) kX12_behind vX12_behind w_1987 (st139 hs) rfl rfl rfl rfl (Nat.le_of_ble_eq_true rfl) z0 ?_
  refine x_icmp_ge (tgt := 54) hX dX12_laysAisles_17 (by decide) rfl rfl (fun hc => ?_) (fun hc => ?_)
  · replace h := (if_pos hc).symm.trans h
    refine x_aloadn hX dX12_laysAisles_20 rfl ?_
    refine x_iloadn hX dX12_laysAisles_21 rfl ?_
    obtain ⟨r_6, er_6, h⟩ := cl1_of h
    refine x_callVi (t := 11) (As := [vi x2]) (rest := []) hX dX12_laysAisles_22 (c_X12_highest (gk hX) (gl hX) hs x2 M _ er_6) kX12_highest vX12_highest w_1991 (st139 hs) rfl rfl rfl rfl (Nat.le_of_ble_eq_true rfl) z0 ?_
    refine x_if_le (tgt := 48) hX dX12_laysAisles_25 (by decide) rfl (fun hc => ?_) (fun hc => ?_)
    · replace h := (if_pos hc).symm.trans h
      refine x_aloadn hX dX12_laysAisles_28 rfl ?_
      refine x_getRj (j := 146) hX dX12_laysAisles_29 fl_X12_29 rfl (st139 hs) rfl ?_
      refine x_aloadn hX dX12_laysAisles_32 rfl ?_
      refine x_getI hX dX12_laysAisles_33 fl_X12_190 rfl (st139 hs) ?_
      refine x_iloadn hX dX12_laysAisles_36 rfl ?_
      obtain ⟨b_9, h⟩ := gi_of h
      obtain ⟨M_8, eM_8, h⟩ := bnd_of h
      refine x_iast hX dX12_laysAisles_37 (st146 hs) b_9 rfl (x_meq eM_8 ?_)
      refine x_aloadn hX dX12_laysAisles_38 rfl ?_
      refine x_dup hX dX12_laysAisles_39 rfl ?_
      refine x_getI hX dX12_laysAisles_40 fl_X12_190 rfl (st139 hs) ?_
      refine x_iconst hX dX12_laysAisles_43 ?_
      refine x_iadd hX dX12_laysAisles_44 ?_
      obtain ⟨M_10, eM_10, h⟩ := bnd_of h
      refine x_putI hX dX12_laysAisles_45 fp_X12_190 rfl (st139 hs) (x_meq eM_10 ?_)
      exact x_weak [true, true, true] rfl (tj_X12_laysAisles_48_11 hX hs x1 x2 M_10 o h hP hE hR)
    · replace h := (if_neg hc).symm.trans h
      exact x_weak [true, true, true] rfl (tj_X12_laysAisles_48_11 hX hs x1 x2 M o h hP hE hR)
  · replace h := (if_neg hc).symm.trans h
    exact x_weak [false, false, false] rfl (hE M (Option.some.inj h).symm)
set_option maxRecDepth 100000 in
set_option maxHeartbeats 4000000 in
theorem c_X12_laysAisles {l : Launch} {G : Gx} (hG : GOK G) (hl : l.stackTraces = false) (hs : SOK G)  (x1 : Int) (M : Mem) (Mr : Mem) (h : f_X12_laysAisles x1 M = some Mr) : Cn l G mX12_laysAisles 3 [vr G 139, vi x1] M none Mr := by
  refine Cn_of2 (ls := [some (vr G 139), some (vi x1), none]) hG hl kX12_laysAisles rfl (Nat.le_of_ble_eq_true rfl) rfl rfl rfl rfl rfl (fun X eG el hX => ?_)
  subst eG; subst el
  unfold f_X12_laysAisles at h
  refine x_aloadn hX dX12_laysAisles_0 rfl ?_
  refine x_iconst hX dX12_laysAisles_1 ?_
  obtain ⟨M_1, eM_1, h⟩ := bnd_of h
  refine x_putI hX dX12_laysAisles_2 fp_X12_190 rfl (st139 hs) (x_meq eM_1 ?_)
  refine x_aloadn hX dX12_laysAisles_5 rfl ?_
  refine x_iloadn hX dX12_laysAisles_6 rfl ?_
  obtain ⟨r_2, er_2, h⟩ := cl1_of h
  refine x_callVi (t := 11) (As := [vi x1]) (rest := []) hX dX12_laysAisles_7 (c_X12_firstOf (gk hX) (gl hX) hs x1 M_1 _ er_2) kX12_firstOf vX12_firstOf w_1983 (st139 hs) rfl rfl rfl rfl (Nat.le_of_ble_eq_true rfl) z0 ?_
  refine x_istoren (ls' := [some (vr (xG X) 139), some (vi x1), some (vi r_2)]) hX dX12_laysAisles_10 rfl rfl rfl ?_
  refine x_weak (ls' := [some (vr (xG X) 139), some (vi x1), some (vi r_2)]) [true, true, true] rfl ?_
  refine lp_use (x := (r_2, M_1)) (P := fun x => V X 0 0 (Qn X none Mr) 11 [some (vr (xG X) 139), some (vi x1), some (vi x.1)] [] x.2) (PE := fun z_12 => V X 0 0 (Qn X none Mr) 54 [none, none, none] [] z_12) (PR := fun q => (Qn X none Mr) = Qn X none q) h (fun x o hh hP hE hR => ts_X12_laysAisles_11 hX hs x1 x.1 x.2 o hh hP hE hR) (fun z_12 h => ?_) (fun q h => ?_)
  · show V X 0 0 (Qn X none Mr) 54 [none, none, none] [] z_12
    cases h
    exact x_vret hX dX12_laysAisles_54 rfl
  · cases h; rfl
set_option maxRecDepth 100000 in
set_option maxHeartbeats 4000000 in
theorem tj_X12_bestChoice_39_4 {X : Cxt} (hX : Gd X RX12 cX12_bestChoice 4 (some .int) 3) (hs : SOK (xG X))   (x2 : Int) (y0 : Int) (M : Mem) {Q : State → Prop} (o : (Int × Int) ⊕ ((Int) ⊕ (Int))) (h : j_X12_bestChoice_39_4 x2 y0 M = some o) (hP : ∀ y, o = .inl y → V X 0 0 Q 4 [some (vr (xG X) 139), some (vi y.1), some (vi y.2), none] [] M) (hE : ∀ z, o = .inr (.inl z) → V X 0 0 Q 46 [none, some (vi z), none, none] [] M) (hR : ∀ q, o = .inr (.inr q) → Q = Qn X (some (vi q)) M) : V X 0 0 Q 39 [some (vr (xG X) 139), none, some (vi x2), none] [vi y0] M := by
  unfold j_X12_bestChoice_39_4 at h
  refine x_istoren (ls' := [some (vr (xG X) 139), some (vi y0), some (vi x2), none]) hX dX12_bestChoice_39 rfl rfl rfl ?_
  obtain ⟨x2_3, ex2_3, h⟩ := bnd_of h
  refine x_iinc (ls' := [some (vr (xG X) 139), some (vi y0), some (vi x2_3), none]) hX dX12_bestChoice_40 rfl rfl ex2_3 rfl ?_
  refine x_goto (tgt := 4) hX dX12_bestChoice_43 (by decide) ?_
  exact x_weak [true, true, true, false] rfl (hP (y0, x2_3) (Option.some.inj h).symm)
set_option maxRecDepth 100000 in
set_option maxHeartbeats 4000000 in
theorem tj_X12_bestChoice_38_4 {X : Cxt} (hX : Gd X RX12 cX12_bestChoice 4 (some .int) 3) (hs : SOK (xG X))   (x1 : Int) (x2 : Int) (M : Mem) {Q : State → Prop} (o : (Int × Int) ⊕ ((Int) ⊕ (Int))) (h : j_X12_bestChoice_38_4 x1 x2 M = some o) (hP : ∀ y, o = .inl y → V X 0 0 Q 4 [some (vr (xG X) 139), some (vi y.1), some (vi y.2), none] [] M) (hE : ∀ z, o = .inr (.inl z) → V X 0 0 Q 46 [none, some (vi z), none, none] [] M) (hR : ∀ q, o = .inr (.inr q) → Q = Qn X (some (vi q)) M) : V X 0 0 Q 38 [some (vr (xG X) 139), some (vi x1), some (vi x2), none] [] M := by
  unfold j_X12_bestChoice_38_4 at h
  refine x_iloadn hX dX12_bestChoice_38 rfl ?_
  exact x_weak [true, false, true, false] rfl (tj_X12_bestChoice_39_4 hX hs x2 x1 M o h hP hE hR)
set_option maxRecDepth 100000 in
set_option maxHeartbeats 4000000 in
theorem ts_X12_bestChoice_4 {X : Cxt} (hX : Gd X RX12 cX12_bestChoice 4 (some .int) 3) (hs : SOK (xG X))  (M : Mem) (x1 : Int) (x2 : Int) {Q : State → Prop} (o : (Int × Int) ⊕ ((Int) ⊕ (Int))) (h : s_X12_bestChoice_4 M x1 x2 = some o) (hP : ∀ y, o = .inl y → V X 0 0 Q 4 [some (vr (xG X) 139), some (vi y.1), some (vi y.2), none] [] M) (hE : ∀ z, o = .inr (.inl z) → V X 0 0 Q 46 [none, some (vi z), none, none] [] M) (hR : ∀ q, o = .inr (.inr q) → Q = Qn X (some (vi q)) M) : V X 0 0 Q 4 [some (vr (xG X) 139), some (vi x1), some (vi x2), none] [] M := by
  unfold s_X12_bestChoice_4 at h
  refine x_iloadn hX dX12_bestChoice_4 rfl ?_
  refine x_iconst hX dX12_bestChoice_5 ?_
  refine x_aloadn hX dX12_bestChoice_6 rfl ?_
  refine x_getI hX dX12_bestChoice_7 fl_X12_190 rfl (st139 hs) ?_
  refine x_ishl hX dX12_bestChoice_10 ?_
  refine x_icmp_ge (tgt := 46) hX dX12_bestChoice_11 (by decide) rfl rfl (fun hc => ?_) (fun hc => ?_)
  · replace h := (if_pos hc).symm.trans h
    refine x_aloadn hX dX12_bestChoice_14 rfl ?_
    refine x_iloadn hX dX12_bestChoice_15 rfl ?_
    obtain ⟨r_1, er_1, h⟩ := cl1_of h
    refine x_callVi (t := 11) (As := [vi x2]) (rest := []) hX dX12_bestChoice_16 (c_X12_combinedBy (gk hX) (gl hX) hs x2 M _ er_1) kX12_combinedBy vX12_combinedBy w_2019 (st139 hs) rfl rfl rfl rfl (Nat.le_of_ble_eq_true rfl) z0 ?_
    refine x_istoren (ls' := [some (vr (xG X) 139), some (vi x1), some (vi x2), some (vi r_1)]) hX dX12_bestChoice_19 rfl rfl rfl ?_
    refine x_iloadn hX dX12_bestChoice_20 rfl ?_
    refine x_iconst hX dX12_bestChoice_21 ?_
    refine x_icmp_eq (tgt := 38) hX dX12_bestChoice_22 (by decide) rfl cw_m1 (fun hc => ?_) (fun hc => ?_)
    · replace h := (if_pos hc).symm.trans h
      exact x_weak [true, true, true, false] rfl (tj_X12_bestChoice_38_4 hX hs x1 x2 M o h hP hE hR)
    · replace h := (if_neg hc).symm.trans h
      refine x_iloadn hX dX12_bestChoice_25 rfl ?_
      refine x_aloadn hX dX12_bestChoice_26 rfl ?_
      refine x_iloadn hX dX12_bestChoice_27 rfl ?_
      obtain ⟨r_4, er_4, h⟩ := cl1_of h
      refine x_callVi (t := 11) (As := [vi x1]) (rest := [vi r_1]) hX dX12_bestChoice_28 (c_X12_combinedBy (gk hX) (gl hX) hs x1 M _ er_4) kX12_combinedBy vX12_combinedBy w_2019 (st139 hs) rfl rfl rfl rfl (Nat.le_of_ble_eq_true rfl) z0 ?_
      refine x_icmp_ge (tgt := 38) hX dX12_bestChoice_31 (by decide) rfl rfl (fun hc => ?_) (fun hc => ?_)
      · replace h := (if_pos hc).symm.trans h
        refine x_iloadn hX dX12_bestChoice_34 rfl ?_
        refine x_goto (tgt := 39) hX dX12_bestChoice_35 (by decide) ?_
        exact x_weak [true, false, true, false] rfl (tj_X12_bestChoice_39_4 hX hs x2 x2 M o h hP hE hR)
      · replace h := (if_neg hc).symm.trans h
        exact x_weak [true, true, true, false] rfl (tj_X12_bestChoice_38_4 hX hs x1 x2 M o h hP hE hR)
  · replace h := (if_neg hc).symm.trans h
    exact x_weak [false, true, false, false] rfl (hE x1 (Option.some.inj h).symm)
set_option maxRecDepth 100000 in
set_option maxHeartbeats 4000000 in
theorem c_X12_bestChoice {l : Launch} {G : Gx} (hG : GOK G) (hl : l.stackTraces = false) (hs : SOK G)  (M : Mem) (r : Int) (h : f_X12_bestChoice M = some r) : Cn l G mX12_bestChoice 3 [vr G 139] M (some (vi r)) M := by
  refine Cn_of2 (ls := [some (vr G 139), none, none, none]) hG hl kX12_bestChoice rfl (Nat.le_of_ble_eq_true rfl) rfl rfl rfl rfl rfl (fun X eG el hX => ?_)
  subst eG; subst el
  unfold f_X12_bestChoice at h
  refine x_iconst hX dX12_bestChoice_0 ?_
  refine x_istoren (ls' := [some (vr (xG X) 139), some (vi 0), none, none]) hX dX12_bestChoice_1 rfl rfl rfl ?_
  refine x_iconst hX dX12_bestChoice_2 ?_
  refine x_istoren (ls' := [some (vr (xG X) 139), some (vi 0), some (vi 1), none]) hX dX12_bestChoice_3 rfl rfl rfl ?_
  refine x_weak (ls' := [some (vr (xG X) 139), some (vi 0), some (vi 1), none]) [true, true, true, false] rfl ?_
  refine lp_use (x := (0, 1)) (P := fun x => V X 0 0 (Qn X (some (vi r)) M) 4 [some (vr (xG X) 139), some (vi x.1), some (vi x.2), none] [] M) (PE := fun z_6 => V X 0 0 (Qn X (some (vi r)) M) 46 [none, some (vi z_6), none, none] [] M) (PR := fun q => (Qn X (some (vi r)) M) = Qn X (some (vi q)) M) h (fun x o hh hP hE hR => ts_X12_bestChoice_4 hX hs M x.1 x.2 o hh hP hE hR) (fun z_6 h => ?_) (fun q h => ?_)
  · show V X 0 0 (Qn X (some (vi r)) M) 46 [none, some (vi z_6), none, none] [] M
    refine x_iloadn hX dX12_bestChoice_46 rfl ?_
    cases h
    exact x_iret hX dX12_bestChoice_47 rfl
  · cases h; rfl
set_option maxRecDepth 100000 in
set_option maxHeartbeats 4000000 in
theorem ts_X12_gapOf_22 {X : Cxt} (hX : Gd X RX12 cX12_gapOf 3 (some .int) 3) (hs : SOK (xG X))  (x1 : Int) (x2 : Int) (M : Mem) {Q : State → Prop} (o : (Int × Int × Mem) ⊕ ((Int × Mem) ⊕ (Int × Mem))) (h : s_X12_gapOf_22 x1 x2 M = some o) (hP : ∀ y, o = .inl y → V X 0 0 Q 22 [some (vr (xG X) 139), some (vi y.1), some (vi y.2.1)] [] y.2.2) (hE : ∀ z, o = .inr (.inl z) → V X 0 0 Q 62 [none, some (vi z.1), none] [] z.2) (hR : ∀ q, o = .inr (.inr q) → Q = Qn X (some (vi q.1)) q.2) : V X 0 0 Q 22 [some (vr (xG X) 139), some (vi x1), some (vi x2)] [] M := by
  unfold s_X12_gapOf_22 at h
  refine x_iloadn hX dX12_gapOf_22 rfl ?_
  refine x_aloadn hX dX12_gapOf_23 rfl ?_
  refine x_getI hX dX12_gapOf_24 fl_X12_190 rfl (st139 hs) ?_
  refine x_iconst hX dX12_gapOf_27 ?_
  refine x_isub hX dX12_gapOf_28 ?_
  refine x_icmp_ge (tgt := 62) hX dX12_gapOf_29 (by decide) rfl rfl (fun hc => ?_) (fun hc => ?_)
  · replace h := (if_pos hc).symm.trans h
    refine x_aloadn hX dX12_gapOf_32 rfl ?_
    refine x_aloadn hX dX12_gapOf_33 rfl ?_
    refine x_getRj (j := 146) hX dX12_gapOf_34 fl_X12_29 rfl (st139 hs) rfl ?_
    refine x_iloadn hX dX12_gapOf_37 rfl ?_
    obtain ⟨b_6, h⟩ := gi_of h
    refine x_iald hX dX12_gapOf_38 (st146 hs) b_6 rfl ?_
    obtain ⟨M_8, er_7, h⟩ := cl1_of h
    refine x_callVv (t := 11) (As := [vi (M 146 (ix x2))]) (rest := []) hX dX12_gapOf_39 (c_X12_seeksGap (gk hX) (gl hX) hs (M 146 (ix x2)) M _ er_7) kX12_seeksGap vX12_seeksGap w_2011 (st139 hs) rfl rfl rfl rfl (Nat.le_of_ble_eq_true rfl) z0 ?_
    refine x_iloadn hX dX12_gapOf_42 rfl ?_
    refine x_iconst hX dX12_gapOf_43 ?_
    refine x_aloadn hX dX12_gapOf_44 rfl ?_
    obtain ⟨r_9, er_9, h⟩ := cl1_of h
    refine x_callVi (t := 11) (As := []) (rest := [vi 2, vi x1]) hX dX12_gapOf_45 (c_X12_through (gk hX) (gl hX) hs M_8 _ er_9) kX12_through vX12_through w_2003 (st139 hs) rfl rfl rfl rfl (Nat.le_of_ble_eq_true rfl) z0 ?_
    refine x_aloadn hX dX12_gapOf_48 rfl ?_
    refine x_getI hX dX12_gapOf_49 fl_X12_202 rfl (st139 hs) ?_
    refine x_isub hX dX12_gapOf_52 ?_
    refine x_imul hX dX12_gapOf_53 ?_
    refine x_iadd hX dX12_gapOf_54 ?_
    obtain ⟨x1_11, ex1_11, h⟩ := bnd_of h
    refine x_istoren (ls' := [some (vr (xG X) 139), some (vi x1_11), some (vi x2)]) hX dX12_gapOf_55 rfl ex1_11 rfl ?_
    obtain ⟨x2_12, ex2_12, h⟩ := bnd_of h
    refine x_iinc (ls' := [some (vr (xG X) 139), some (vi x1_11), some (vi x2_12)]) hX dX12_gapOf_56 rfl rfl ex2_12 rfl ?_
    refine x_goto (tgt := 22) hX dX12_gapOf_59 (by decide) ?_
    exact x_weak [true, true, true] rfl (hP (x1_11, x2_12, M_8) (Option.some.inj h).symm)
  · replace h := (if_neg hc).symm.trans h
    exact x_weak [false, true, false] rfl (hE (x1, M) (Option.some.inj h).symm)
set_option maxRecDepth 100000 in
set_option maxHeartbeats 4000000 in
theorem c_X12_gapOf {l : Launch} {G : Gx} (hG : GOK G) (hl : l.stackTraces = false) (hs : SOK G)  (M : Mem) (r : Int) (Mr : Mem) (h : f_X12_gapOf M = some (r, Mr)) : Cn l G mX12_gapOf 3 [vr G 139] M (some (vi r)) Mr := by
  refine Cn_of2 (ls := [some (vr G 139), none, none]) hG hl kX12_gapOf rfl (Nat.le_of_ble_eq_true rfl) rfl rfl rfl rfl rfl (fun X eG el hX => ?_)
  subst eG; subst el
  unfold f_X12_gapOf at h
  refine x_aloadn hX dX12_gapOf_0 rfl ?_
  refine x_getI hX dX12_gapOf_1 fl_X12_190 rfl (st139 hs) ?_
  refine x_iconst hX dX12_gapOf_4 ?_
  refine x_icmp_ne (tgt := 13) hX dX12_gapOf_5 (by decide) rfl cw_1 (fun hc => ?_) (fun hc => ?_)
  · replace h := (if_pos hc).symm.trans h
    refine x_aloadn hX dX12_gapOf_8 rfl ?_
    obtain ⟨r_1, er_1, h⟩ := cl1_of h
    refine x_callVi (t := 11) (As := []) (rest := []) hX dX12_gapOf_9 (c_X12_returnOf (gk hX) (gl hX) hs M _ er_1) kX12_returnOf vX12_returnOf w_1995 (st139 hs) rfl rfl rfl rfl (Nat.le_of_ble_eq_true rfl) z0 ?_
    cases h
    exact x_iret hX dX12_gapOf_12 rfl
  · replace h := (if_neg hc).symm.trans h
    refine x_iconst hX dX12_gapOf_13 ?_
    refine x_aloadn hX dX12_gapOf_14 rfl ?_
    obtain ⟨r_3, er_3, h⟩ := cl1_of h
    refine x_callVi (t := 11) (As := []) (rest := [vi 2]) hX dX12_gapOf_15 (c_X12_through (gk hX) (gl hX) hs M _ er_3) kX12_through vX12_through w_2003 (st139 hs) rfl rfl rfl rfl (Nat.le_of_ble_eq_true rfl) z0 ?_
    refine x_imul hX dX12_gapOf_18 ?_
    obtain ⟨x1_5, ex1_5, h⟩ := bnd_of h
    refine x_istoren (ls' := [some (vr (xG X) 139), some (vi x1_5), none]) hX dX12_gapOf_19 rfl ex1_5 rfl ?_
    refine x_iconst hX dX12_gapOf_20 ?_
    refine x_istoren (ls' := [some (vr (xG X) 139), some (vi x1_5), some (vi 1)]) hX dX12_gapOf_21 rfl rfl rfl ?_
    refine x_weak (ls' := [some (vr (xG X) 139), some (vi x1_5), some (vi 1)]) [true, true, true] rfl ?_
    refine lp_use (x := (x1_5, 1, M)) (P := fun x => V X 0 0 (Qn X (some (vi r)) Mr) 22 [some (vr (xG X) 139), some (vi x.1), some (vi x.2.1)] [] x.2.2) (PE := fun z_13 => V X 0 0 (Qn X (some (vi r)) Mr) 62 [none, some (vi z_13.1), none] [] z_13.2) (PR := fun q => (Qn X (some (vi r)) Mr) = Qn X (some (vi q.1)) q.2) h (fun x o hh hP hE hR => ts_X12_gapOf_22 hX hs x.1 x.2.1 x.2.2 o hh hP hE hR) (fun z_13 h => ?_) (fun q h => ?_)
    · show V X 0 0 (Qn X (some (vi r)) Mr) 62 [none, some (vi z_13.1), none] [] z_13.2
      refine x_iloadn hX dX12_gapOf_62 rfl ?_
      cases h
      exact x_iret hX dX12_gapOf_63 rfl
    · cases h; rfl
set_option maxRecDepth 100000 in
set_option maxHeartbeats 4000000 in
theorem ts_X12_zoneOf_28 {X : Cxt} (hX : Gd X RX12 cX12_zoneOf 3 (some .int) 3) (hs : SOK (xG X))  (x1 : Int) (M : Mem) (x2 : Int) {Q : State → Prop} (o : (Int) ⊕ ((Int) ⊕ (Int × Mem))) (h : s_X12_zoneOf_28 x1 M x2 = some o) (hP : ∀ y, o = .inl y → V X 0 0 Q 28 [some (vr (xG X) 139), some (vi x1), some (vi y)] [] M) (hE : ∀ z, o = .inr (.inl z) → V X 0 0 Q 43 [none, none, some (vi z)] [] M) (hR : ∀ q, o = .inr (.inr q) → Q = Qn X (some (vi q.1)) q.2) : V X 0 0 Q 28 [some (vr (xG X) 139), some (vi x1), some (vi x2)] [] M := by
  unfold s_X12_zoneOf_28 at h
  refine x_iloadn hX dX12_zoneOf_28 rfl ?_
  refine x_aloadn hX dX12_zoneOf_29 rfl ?_
  refine x_iloadn hX dX12_zoneOf_30 rfl ?_
  obtain ⟨r_4, er_4, h⟩ := cl1_of h
  refine x_callVi (t := 11) (As := [vi x2]) (rest := [vi x1]) hX dX12_zoneOf_31 (c_X12_behind (gk hX) (gl hX) hs x2 M _ er_4) kX12_behind vX12_behind w_1987 (st139 hs) rfl rfl rfl rfl (Nat.le_of_ble_eq_true rfl) z0 ?_
  refine x_icmp_lt (tgt := 43) hX dX12_zoneOf_34 (by decide) rfl rfl (fun hc => ?_) (fun hc => ?_)
  · replace h := (if_pos hc).symm.trans h
    exact x_weak [false, false, true] rfl (hE x2 (Option.some.inj h).symm)
  · replace h := (if_neg hc).symm.trans h
    obtain ⟨x2_6, ex2_6, h⟩ := bnd_of h
    refine x_iinc (ls' := [some (vr (xG X) 139), some (vi x1), some (vi x2_6)]) hX dX12_zoneOf_37 rfl rfl ex2_6 rfl ?_
    refine x_goto (tgt := 28) hX dX12_zoneOf_40 (by decide) ?_
    exact x_weak [true, true, true] rfl (hP x2_6 (Option.some.inj h).symm)
set_option maxRecDepth 100000 in
set_option maxHeartbeats 4000000 in
theorem tj_X12_zoneOf_14 {X : Cxt} (hX : Gd X RX12 cX12_zoneOf 3 (some .int) 3) (hs : SOK (xG X))   (x1 : Int) (y1 : Int) (M : Mem) (r : Int) (Mr : Mem) (h : j_X12_zoneOf_14 x1 y1 M = some (r, Mr)) : V X 0 0 (Qn X (some (vi r)) Mr) 14 [some (vr (xG X) 139), some (vi x1), none] [vi y1, vr (xG X) 139] M := by
  unfold j_X12_zoneOf_14 at h
  obtain ⟨M_3, eM_3, h⟩ := bnd_of h
  refine x_putI hX dX12_zoneOf_14 fp_X12_70 rfl (st139 hs) (x_meq eM_3 ?_)
  refine x_aloadn hX dX12_zoneOf_17 rfl ?_
  refine x_getI hX dX12_zoneOf_18 fl_X12_70 rfl (st139 hs) ?_
  refine x_if_le (tgt := 26) hX dX12_zoneOf_21 (by decide) rfl (fun hc => ?_) (fun hc => ?_)
  · replace h := (if_pos hc).symm.trans h
    refine x_iconst hX dX12_zoneOf_24 ?_
    cases h
    exact x_iret hX dX12_zoneOf_25 rfl
  · replace h := (if_neg hc).symm.trans h
    refine x_iconst hX dX12_zoneOf_26 ?_
    refine x_istoren (ls' := [some (vr (xG X) 139), some (vi x1), some (vi 0)]) hX dX12_zoneOf_27 rfl rfl rfl ?_
    refine x_weak (ls' := [some (vr (xG X) 139), some (vi x1), some (vi 0)]) [true, true, true] rfl ?_
    refine lp_use (x := 0) (P := fun x => V X 0 0 (Qn X (some (vi r)) Mr) 28 [some (vr (xG X) 139), some (vi x1), some (vi x)] [] M_3) (PE := fun z_7 => V X 0 0 (Qn X (some (vi r)) Mr) 43 [none, none, some (vi z_7)] [] M_3) (PR := fun q => (Qn X (some (vi r)) Mr) = Qn X (some (vi q.1)) q.2) h (fun x o hh hP hE hR => ts_X12_zoneOf_28 hX hs x1 M_3 x o hh hP hE hR) (fun z_7 h => ?_) (fun q h => ?_)
    · show V X 0 0 (Qn X (some (vi r)) Mr) 43 [none, none, some (vi z_7)] [] M_3
      refine x_iloadn hX dX12_zoneOf_43 rfl ?_
      cases h
      exact x_iret hX dX12_zoneOf_44 rfl
    · cases h; rfl
set_option maxRecDepth 100000 in
set_option maxHeartbeats 4000000 in
theorem c_X12_zoneOf {l : Launch} {G : Gx} (hG : GOK G) (hl : l.stackTraces = false) (hs : SOK G)  (x1 : Int) (M : Mem) (r : Int) (Mr : Mem) (h : f_X12_zoneOf x1 M = some (r, Mr)) : Cn l G mX12_zoneOf 3 [vr G 139, vi x1] M (some (vi r)) Mr := by
  refine Cn_of2 (ls := [some (vr G 139), some (vi x1), none]) hG hl kX12_zoneOf rfl (Nat.le_of_ble_eq_true rfl) rfl rfl rfl rfl rfl (fun X eG el hX => ?_)
  subst eG; subst el
  unfold f_X12_zoneOf at h
  refine x_aloadn hX dX12_zoneOf_0 rfl ?_
  refine x_aloadn hX dX12_zoneOf_1 rfl ?_
  refine x_iloadn hX dX12_zoneOf_2 rfl ?_
  obtain ⟨r_1, er_1, h⟩ := cl1_of h
  refine x_callVi (t := 11) (As := [vi x1]) (rest := [vr (xG X) 139]) hX dX12_zoneOf_3 (c_X12_isAisle (gk hX) (gl hX) hs x1 M _ er_1) kX12_isAisle vX12_isAisle w_1750 (st139 hs) rfl rfl rfl rfl (Nat.le_of_ble_eq_true rfl) z0 ?_
  refine x_if_eq (tgt := 13) hX dX12_zoneOf_6 (by decide) rfl (fun hc => ?_) (fun hc => ?_)
  · replace h := (if_pos hc).symm.trans h
    refine x_iconst hX dX12_zoneOf_13 ?_
    exact x_weak [true, true, false] rfl (tj_X12_zoneOf_14 hX hs x1 1 M r Mr h)
  · replace h := (if_neg hc).symm.trans h
    refine x_iconst hX dX12_zoneOf_9 ?_
    refine x_goto (tgt := 14) hX dX12_zoneOf_10 (by decide) ?_
    exact x_weak [true, true, false] rfl (tj_X12_zoneOf_14 hX hs x1 0 M r Mr h)
set_option maxRecDepth 100000 in
set_option maxHeartbeats 4000000 in
theorem c_X12_isPart {l : Launch} {G : Gx} (hG : GOK G) (hl : l.stackTraces = false) (hs : SOK G)  (x1 : Int) (x2 : Int) (M : Mem) (r : Int) (h : f_X12_isPart x1 x2 M = some r) : Cn l G mX12_isPart 3 [vr G 139, vi x1, vi x2] M (some (vi r)) M := by
  refine Cn_of2 (ls := [some (vr G 139), some (vi x1), some (vi x2)]) hG hl kX12_isPart rfl (Nat.le_of_ble_eq_true rfl) rfl rfl rfl rfl rfl (fun X eG el hX => ?_)
  subst eG; subst el
  unfold f_X12_isPart at h
  refine x_aloadn hX dX12_isPart_0 rfl ?_
  refine x_iloadn hX dX12_isPart_1 rfl ?_
  obtain ⟨r_1, er_1, h⟩ := cl1_of h
  refine x_callVi (t := 11) (As := [vi x1]) (rest := []) hX dX12_isPart_2 (c_X12_isBatch (gk hX) (gl hX) hs x1 M _ er_1) kX12_isBatch vX12_isBatch w_1931 (st139 hs) rfl rfl rfl rfl (Nat.le_of_ble_eq_true rfl) z0 ?_
  refine x_if_eq (tgt := 20) hX dX12_isPart_5 (by decide) rfl (fun hc => ?_) (fun hc => ?_)
  · replace h := (if_pos hc).symm.trans h
    refine x_iconst hX dX12_isPart_20 ?_
    cases h
    exact x_zret hX dX12_isPart_21 (Or.inl cw_0) rfl
  · replace h := (if_neg hc).symm.trans h
    refine x_aloadn hX dX12_isPart_8 rfl ?_
    refine x_iloadn hX dX12_isPart_9 rfl ?_
    obtain ⟨r_3, er_3, h⟩ := cl1_of h
    refine x_callVi (t := 11) (As := [vi x2]) (rest := []) hX dX12_isPart_10 (c_X12_isZone (gk hX) (gl hX) hs x2 M _ er_3) kX12_isZone vX12_isZone w_2055 (st139 hs) rfl rfl rfl rfl (Nat.le_of_ble_eq_true rfl) z0 ?_
    refine x_if_eq (tgt := 20) hX dX12_isPart_13 (by decide) rfl (fun hc => ?_) (fun hc => ?_)
    · replace h := (if_pos hc).symm.trans h
      refine x_iconst hX dX12_isPart_20 ?_
      cases h
      exact x_zret hX dX12_isPart_21 (Or.inl cw_0) rfl
    · replace h := (if_neg hc).symm.trans h
      refine x_iconst hX dX12_isPart_16 ?_
      refine x_goto (tgt := 21) hX dX12_isPart_17 (by decide) ?_
      cases h
      exact x_zret hX dX12_isPart_21 (Or.inr cw_1) rfl
set_option maxRecDepth 100000 in
set_option maxHeartbeats 4000000 in
theorem ts_X12_goesUp_3 {X : Cxt} (hX : Gd X RX12 cX12_goesUp 5 (none) 3) (hs : SOK (xG X))  (x1 : Int) (x3 : Int) (x4 : Int) (M : Mem) {Q : State → Prop} (o : (Int × Mem) ⊕ ((Mem) ⊕ (Mem))) (h : s_X12_goesUp_3 x1 x3 x4 M = some o) (hP : ∀ y, o = .inl y → V X 0 0 Q 3 [some (vr (xG X) 139), some (vi x1), none, some (vi x3), some (vi y.1)] [] y.2) (hE : ∀ z, o = .inr (.inl z) → V X 0 0 Q 22 [none, none, none, none, none] [] z) (hR : ∀ q, o = .inr (.inr q) → Q = Qn X none q) : V X 0 0 Q 3 [some (vr (xG X) 139), some (vi x1), none, some (vi x3), some (vi x4)] [] M := by
  unfold s_X12_goesUp_3 at h
  refine x_iload hX dX12_goesUp_3 rfl ?_
  refine x_iloadn hX dX12_goesUp_5 rfl ?_
  refine x_icmp_gt (tgt := 22) hX dX12_goesUp_6 (by decide) rfl rfl (fun hc => ?_) (fun hc => ?_)
  · replace h := (if_pos hc).symm.trans h
    exact x_weak [false, false, false, false, false] rfl (hE M (Option.some.inj h).symm)
  · replace h := (if_neg hc).symm.trans h
    refine x_aloadn hX dX12_goesUp_9 rfl ?_
    refine x_iloadn hX dX12_goesUp_10 rfl ?_
    refine x_iload hX dX12_goesUp_11 rfl ?_
    obtain ⟨M_2, er_1, h⟩ := cl1_of h
    refine x_callVv (t := 11) (As := [vi x1, vi x4]) (rest := []) hX dX12_goesUp_13 (c_X12_stopsAt (gk hX) (gl hX) hs x1 x4 M _ er_1) kX12_stopsAt vX12_stopsAt w_2087 (st139 hs) rfl rfl rfl rfl (Nat.le_of_ble_eq_true rfl) z0 ?_
    obtain ⟨x4_3, ex4_3, h⟩ := bnd_of h
    refine x_iinc (ls' := [some (vr (xG X) 139), some (vi x1), none, some (vi x3), some (vi x4_3)]) hX dX12_goesUp_16 rfl rfl ex4_3 rfl ?_
    refine x_goto (tgt := 3) hX dX12_goesUp_19 (by decide) ?_
    exact x_weak [true, true, false, true, true] rfl (hP (x4_3, M_2) (Option.some.inj h).symm)
set_option maxRecDepth 100000 in
set_option maxHeartbeats 4000000 in
theorem c_X12_goesUp {l : Launch} {G : Gx} (hG : GOK G) (hl : l.stackTraces = false) (hs : SOK G)  (x1 : Int) (x2 : Int) (x3 : Int) (M : Mem) (Mr : Mem) (h : f_X12_goesUp x1 x2 x3 M = some Mr) : Cn l G mX12_goesUp 3 [vr G 139, vi x1, vi x2, vi x3] M none Mr := by
  refine Cn_of2 (ls := [some (vr G 139), some (vi x1), some (vi x2), some (vi x3), none]) hG hl kX12_goesUp rfl (Nat.le_of_ble_eq_true rfl) rfl rfl rfl rfl rfl (fun X eG el hX => ?_)
  subst eG; subst el
  unfold f_X12_goesUp at h
  refine x_iloadn hX dX12_goesUp_0 rfl ?_
  refine x_istore (ls' := [some (vr (xG X) 139), some (vi x1), some (vi x2), some (vi x3), some (vi x2)]) hX dX12_goesUp_1 rfl rfl rfl ?_
  refine x_weak (ls' := [some (vr (xG X) 139), some (vi x1), none, some (vi x3), some (vi x2)]) [true, true, false, true, true] rfl ?_
  refine lp_use (x := (x2, M)) (P := fun x => V X 0 0 (Qn X none Mr) 3 [some (vr (xG X) 139), some (vi x1), none, some (vi x3), some (vi x.1)] [] x.2) (PE := fun z_4 => V X 0 0 (Qn X none Mr) 22 [none, none, none, none, none] [] z_4) (PR := fun q => (Qn X none Mr) = Qn X none q) h (fun x o hh hP hE hR => ts_X12_goesUp_3 hX hs x1 x3 x.1 x.2 o hh hP hE hR) (fun z_4 h => ?_) (fun q h => ?_)
  · show V X 0 0 (Qn X none Mr) 22 [none, none, none, none, none] [] z_4
    cases h
    exact x_vret hX dX12_goesUp_22 rfl
  · cases h; rfl
set_option maxRecDepth 100000 in
set_option maxHeartbeats 4000000 in
theorem ts_X12_goesDown_3 {X : Cxt} (hX : Gd X RX12 cX12_goesDown 5 (none) 3) (hs : SOK (xG X))  (x1 : Int) (x3 : Int) (x4 : Int) (M : Mem) {Q : State → Prop} (o : (Int × Mem) ⊕ ((Mem) ⊕ (Mem))) (h : s_X12_goesDown_3 x1 x3 x4 M = some o) (hP : ∀ y, o = .inl y → V X 0 0 Q 3 [some (vr (xG X) 139), some (vi x1), none, some (vi x3), some (vi y.1)] [] y.2) (hE : ∀ z, o = .inr (.inl z) → V X 0 0 Q 22 [none, none, none, none, none] [] z) (hR : ∀ q, o = .inr (.inr q) → Q = Qn X none q) : V X 0 0 Q 3 [some (vr (xG X) 139), some (vi x1), none, some (vi x3), some (vi x4)] [] M := by
  unfold s_X12_goesDown_3 at h
  refine x_iload hX dX12_goesDown_3 rfl ?_
  refine x_iloadn hX dX12_goesDown_5 rfl ?_
  refine x_icmp_lt (tgt := 22) hX dX12_goesDown_6 (by decide) rfl rfl (fun hc => ?_) (fun hc => ?_)
  · replace h := (if_pos hc).symm.trans h
    exact x_weak [false, false, false, false, false] rfl (hE M (Option.some.inj h).symm)
  · replace h := (if_neg hc).symm.trans h
    refine x_aloadn hX dX12_goesDown_9 rfl ?_
    refine x_iloadn hX dX12_goesDown_10 rfl ?_
    refine x_iload hX dX12_goesDown_11 rfl ?_
    obtain ⟨M_2, er_1, h⟩ := cl1_of h
    refine x_callVv (t := 11) (As := [vi x1, vi x4]) (rest := []) hX dX12_goesDown_13 (c_X12_stopsAt (gk hX) (gl hX) hs x1 x4 M _ er_1) kX12_stopsAt vX12_stopsAt w_2087 (st139 hs) rfl rfl rfl rfl (Nat.le_of_ble_eq_true rfl) z0 ?_
    obtain ⟨x4_3, ex4_3, h⟩ := bnd_of h
    refine x_iinc (ls' := [some (vr (xG X) 139), some (vi x1), none, some (vi x3), some (vi x4_3)]) hX dX12_goesDown_16 rfl rfl ex4_3 rfl ?_
    refine x_goto (tgt := 3) hX dX12_goesDown_19 (by decide) ?_
    exact x_weak [true, true, false, true, true] rfl (hP (x4_3, M_2) (Option.some.inj h).symm)
set_option maxRecDepth 100000 in
set_option maxHeartbeats 4000000 in
theorem c_X12_goesDown {l : Launch} {G : Gx} (hG : GOK G) (hl : l.stackTraces = false) (hs : SOK G)  (x1 : Int) (x2 : Int) (x3 : Int) (M : Mem) (Mr : Mem) (h : f_X12_goesDown x1 x2 x3 M = some Mr) : Cn l G mX12_goesDown 3 [vr G 139, vi x1, vi x2, vi x3] M none Mr := by
  refine Cn_of2 (ls := [some (vr G 139), some (vi x1), some (vi x2), some (vi x3), none]) hG hl kX12_goesDown rfl (Nat.le_of_ble_eq_true rfl) rfl rfl rfl rfl rfl (fun X eG el hX => ?_)
  subst eG; subst el
  unfold f_X12_goesDown at h
  refine x_iloadn hX dX12_goesDown_0 rfl ?_
  refine x_istore (ls' := [some (vr (xG X) 139), some (vi x1), some (vi x2), some (vi x3), some (vi x2)]) hX dX12_goesDown_1 rfl rfl rfl ?_
  refine x_weak (ls' := [some (vr (xG X) 139), some (vi x1), none, some (vi x3), some (vi x2)]) [true, true, false, true, true] rfl ?_
  refine lp_use (x := (x2, M)) (P := fun x => V X 0 0 (Qn X none Mr) 3 [some (vr (xG X) 139), some (vi x1), none, some (vi x3), some (vi x.1)] [] x.2) (PE := fun z_4 => V X 0 0 (Qn X none Mr) 22 [none, none, none, none, none] [] z_4) (PR := fun q => (Qn X none Mr) = Qn X none q) h (fun x o hh hP hE hR => ts_X12_goesDown_3 hX hs x1 x3 x.1 x.2 o hh hP hE hR) (fun z_4 h => ?_) (fun q h => ?_)
  · show V X 0 0 (Qn X none Mr) 22 [none, none, none, none, none] [] z_4
    cases h
    exact x_vret hX dX12_goesDown_22 rfl
  · cases h; rfl
set_option maxRecDepth 100000 in
set_option maxHeartbeats 4000000 in
theorem tj_X12_laysTimes_129_14 {X : Cxt} (hX : Gd X RX12 cX12_laysTimes 6 (none) 3) (hs : SOK (xG X))   (x1 : Int) (x2 : Int) (y1 : Int) (y2 : Int) (M : Mem) {Q : State → Prop} (o : (Int × Mem) ⊕ ((Mem) ⊕ (Mem))) (h : j_X12_laysTimes_129_14 x1 x2 y1 y2 M = some o) (hP : ∀ y, o = .inl y → V X 0 0 Q 14 [some (vr (xG X) 139), some (vi x1), some (vi y.1), none, none, none] [] y.2) (hE : ∀ z, o = .inr (.inl z) → V X 0 0 Q 136 [some (vr (xG X) 139), some (vi x1), none, none, none, none] [] z) (hR : ∀ q, o = .inr (.inr q) → Q = Qn X none q) : V X 0 0 Q 129 [some (vr (xG X) 139), some (vi x1), some (vi x2), none, none, none] [vi y2, vi y1, vr (xG X) 151] M := by
  unfold j_X12_laysTimes_129_14 at h
  obtain ⟨b_13, h⟩ := gi_of h
  obtain ⟨M_12, eM_12, h⟩ := bnd_of h
  refine x_iast hX dX12_laysTimes_129 (st151 hs) b_13 rfl (x_meq eM_12 ?_)
  obtain ⟨x2_14, ex2_14, h⟩ := bnd_of h
  refine x_iinc (ls' := [some (vr (xG X) 139), some (vi x1), some (vi x2_14), none, none, none]) hX dX12_laysTimes_130 rfl rfl ex2_14 rfl ?_
  refine x_goto (tgt := 14) hX dX12_laysTimes_133 (by decide) ?_
  exact x_weak [true, true, true, false, false, false] rfl (hP (x2_14, M_12) (Option.some.inj h).symm)
set_option maxRecDepth 100000 in
set_option maxHeartbeats 4000000 in
theorem tj_X12_laysTimes_73_14 {X : Cxt} (hX : Gd X RX12 cX12_laysTimes 6 (none) 3) (hs : SOK (xG X))   (x1 : Int) (x2 : Int) (x3 : Int) (y1 : Int) (y2 : Int) (M : Mem) {Q : State → Prop} (o : (Int × Mem) ⊕ ((Mem) ⊕ (Mem))) (h : j_X12_laysTimes_73_14 x1 x2 x3 y1 y2 M = some o) (hP : ∀ y, o = .inl y → V X 0 0 Q 14 [some (vr (xG X) 139), some (vi x1), some (vi y.1), none, none, none] [] y.2) (hE : ∀ z, o = .inr (.inl z) → V X 0 0 Q 136 [some (vr (xG X) 139), some (vi x1), none, none, none, none] [] z) (hR : ∀ q, o = .inr (.inr q) → Q = Qn X none q) : V X 0 0 Q 73 [some (vr (xG X) 139), some (vi x1), some (vi x2), some (vi x3), none, none] [vi y2, vi y1, vr (xG X) 150] M := by
  unfold j_X12_laysTimes_73_14 at h
  obtain ⟨b_5, h⟩ := gi_of h
  obtain ⟨M_4, eM_4, h⟩ := bnd_of h
  refine x_iast hX dX12_laysTimes_73 (st150 hs) b_5 rfl (x_meq eM_4 ?_)
  refine x_aloadn hX dX12_laysTimes_74 rfl ?_
  refine x_getRj (j := 150) hX dX12_laysTimes_75 fl_X12_41 rfl (st139 hs) rfl ?_
  refine x_iloadn hX dX12_laysTimes_78 rfl ?_
  obtain ⟨b_6, h⟩ := gi_of h
  refine x_iald hX dX12_laysTimes_79 (st150 hs) b_6 rfl ?_
  refine x_aloadn hX dX12_laysTimes_80 rfl ?_
  refine x_getRj (j := 148) hX dX12_laysTimes_81 fl_X12_35 rfl (st139 hs) rfl ?_
  refine x_iconst hX dX12_laysTimes_84 ?_
  refine x_aloadn hX dX12_laysTimes_85 rfl ?_
  refine x_getRj (j := 149) hX dX12_laysTimes_86 fl_X12_38 rfl (st139 hs) rfl ?_
  refine x_iloadn hX dX12_laysTimes_89 rfl ?_
  obtain ⟨b_7, h⟩ := gi_of h
  refine x_iald hX dX12_laysTimes_90 (st149 hs) b_7 rfl ?_
  refine x_imul hX dX12_laysTimes_91 ?_
  refine x_iloadn hX dX12_laysTimes_92 rfl ?_
  refine x_iadd hX dX12_laysTimes_93 ?_
  obtain ⟨b_8, h⟩ := gi_of h
  refine x_iald hX dX12_laysTimes_94 (st148 hs) b_8 rfl ?_
  refine x_iadd hX dX12_laysTimes_95 ?_
  obtain ⟨x5_9, ex5_9, h⟩ := bnd_of h
  refine x_istore (ls' := [some (vr (xG X) 139), some (vi x1), some (vi x2), some (vi x3), none, some (vi x5_9)]) hX dX12_laysTimes_96 rfl ex5_9 rfl ?_
  refine x_aloadn hX dX12_laysTimes_98 rfl ?_
  refine x_getRj (j := 151) hX dX12_laysTimes_99 fl_X12_44 rfl (st139 hs) rfl ?_
  refine x_iloadn hX dX12_laysTimes_102 rfl ?_
  refine x_iloadn hX dX12_laysTimes_103 rfl ?_
  refine x_aloadn hX dX12_laysTimes_104 rfl ?_
  obtain ⟨r_10, er_10, h⟩ := cl1_of h
  refine x_callVi (t := 11) (As := []) (rest := [vi x2, vi x3, vr (xG X) 151]) hX dX12_laysTimes_105 (c_X12_zones (gk hX) (gl hX) hs M_4 _ er_10) kX12_zones vX12_zones w_1971 (st139 hs) rfl rfl rfl rfl (Nat.le_of_ble_eq_true rfl) z0 ?_
  refine x_iconst hX dX12_laysTimes_108 ?_
  refine x_isub hX dX12_laysTimes_109 ?_
  refine x_icmp_ne (tgt := 118) hX dX12_laysTimes_110 (by decide) rfl rfl (fun hc => ?_) (fun hc => ?_)
  · replace h := (if_pos hc).symm.trans h
    refine x_iload hX dX12_laysTimes_113 rfl ?_
    refine x_goto (tgt := 129) hX dX12_laysTimes_115 (by decide) ?_
    exact x_weak [true, true, true, false, false, false] rfl (tj_X12_laysTimes_129_14 hX hs x1 x2 x3 x5_9 M_4 o h hP hE hR)
  · replace h := (if_neg hc).symm.trans h
    refine x_iload hX dX12_laysTimes_118 rfl ?_
    refine x_aloadn hX dX12_laysTimes_120 rfl ?_
    refine x_iloadn hX dX12_laysTimes_121 rfl ?_
    refine x_iloadn hX dX12_laysTimes_122 rfl ?_
    obtain ⟨r_15, er_15, h⟩ := cl1_of h
    refine x_callVi (t := 11) (As := [vi x1, vi x2]) (rest := [vi x5_9, vi x3, vr (xG X) 151]) hX dX12_laysTimes_123 (c_X12_whenRoom (gk hX) (gl hX) hs x1 x2 M_4 _ er_15) kX12_whenRoom vX12_whenRoom w_2134 (st139 hs) rfl rfl rfl rfl (Nat.le_of_ble_eq_true rfl) z0 ?_
    obtain ⟨r_17, er_17, h⟩ := cl1_of h
    refine x_callSi (As := [vi x5_9, vi r_15]) (rest := [vi x3, vr (xG X) 151]) hX dX12_laysTimes_126 (c_X12_greater (gk hX) (gl hX) x5_9 r_15 M_4 _ er_17) kX12_greater sX12_greater w_2131 rfl rfl rfl (Nat.le_of_ble_eq_true rfl) z0 ?_
    exact x_weak [true, true, true, false, false, false] rfl (tj_X12_laysTimes_129_14 hX hs x1 x2 x3 r_17 M_4 o h hP hE hR)
set_option maxRecDepth 100000 in
set_option maxHeartbeats 4000000 in
theorem tj_X12_laysTimes_44_14 {X : Cxt} (hX : Gd X RX12 cX12_laysTimes 6 (none) 3) (hs : SOK (xG X))   (x1 : Int) (x2 : Int) (x3 : Int) (y0 : Int) (M : Mem) {Q : State → Prop} (o : (Int × Mem) ⊕ ((Mem) ⊕ (Mem))) (h : j_X12_laysTimes_44_14 x1 x2 x3 y0 M = some o) (hP : ∀ y, o = .inl y → V X 0 0 Q 14 [some (vr (xG X) 139), some (vi x1), some (vi y.1), none, none, none] [] y.2) (hE : ∀ z, o = .inr (.inl z) → V X 0 0 Q 136 [some (vr (xG X) 139), some (vi x1), none, none, none, none] [] z) (hR : ∀ q, o = .inr (.inr q) → Q = Qn X none q) : V X 0 0 Q 44 [some (vr (xG X) 139), some (vi x1), some (vi x2), some (vi x3), none, none] [vi y0] M := by
  unfold j_X12_laysTimes_44_14 at h
  refine x_istore (ls' := [some (vr (xG X) 139), some (vi x1), some (vi x2), some (vi x3), some (vi y0), none]) hX dX12_laysTimes_44 rfl rfl rfl ?_
  refine x_aloadn hX dX12_laysTimes_46 rfl ?_
  refine x_getRj (j := 150) hX dX12_laysTimes_47 fl_X12_41 rfl (st139 hs) rfl ?_
  refine x_iloadn hX dX12_laysTimes_50 rfl ?_
  refine x_iloadn hX dX12_laysTimes_51 rfl ?_
  refine x_if_ne (tgt := 60) hX dX12_laysTimes_52 (by decide) rfl (fun hc => ?_) (fun hc => ?_)
  · replace h := (if_pos hc).symm.trans h
    refine x_iload hX dX12_laysTimes_55 rfl ?_
    refine x_goto (tgt := 73) hX dX12_laysTimes_57 (by decide) ?_
    exact x_weak [true, true, true, true, false, false] rfl (tj_X12_laysTimes_73_14 hX hs x1 x2 x3 x3 y0 M o h hP hE hR)
  · replace h := (if_neg hc).symm.trans h
    refine x_iload hX dX12_laysTimes_60 rfl ?_
    refine x_aloadn hX dX12_laysTimes_62 rfl ?_
    refine x_getRj (j := 151) hX dX12_laysTimes_63 fl_X12_44 rfl (st139 hs) rfl ?_
    refine x_iloadn hX dX12_laysTimes_66 rfl ?_
    refine x_iconst hX dX12_laysTimes_67 ?_
    refine x_isub hX dX12_laysTimes_68 ?_
    obtain ⟨b_19, h⟩ := gi_of h
    refine x_iald hX dX12_laysTimes_69 (st151 hs) b_19 rfl ?_
    obtain ⟨r_20, er_20, h⟩ := cl1_of h
    refine x_callSi (As := [vi y0, vi (M 151 (ix (x3 - 3)))]) (rest := [vi x3, vr (xG X) 150]) hX dX12_laysTimes_70 (c_X12_greater (gk hX) (gl hX) y0 (M 151 (ix (x3 - 3))) M _ er_20) kX12_greater sX12_greater w_2131 rfl rfl rfl (Nat.le_of_ble_eq_true rfl) z0 ?_
    exact x_weak [true, true, true, true, false, false] rfl (tj_X12_laysTimes_73_14 hX hs x1 x2 x3 x3 r_20 M o h hP hE hR)
set_option maxRecDepth 100000 in
set_option maxHeartbeats 4000000 in
theorem ts_X12_laysTimes_14 {X : Cxt} (hX : Gd X RX12 cX12_laysTimes 6 (none) 3) (hs : SOK (xG X))  (x1 : Int) (x2 : Int) (M : Mem) {Q : State → Prop} (o : (Int × Mem) ⊕ ((Mem) ⊕ (Mem))) (h : s_X12_laysTimes_14 x1 x2 M = some o) (hP : ∀ y, o = .inl y → V X 0 0 Q 14 [some (vr (xG X) 139), some (vi x1), some (vi y.1), none, none, none] [] y.2) (hE : ∀ z, o = .inr (.inl z) → V X 0 0 Q 136 [some (vr (xG X) 139), some (vi x1), none, none, none, none] [] z) (hR : ∀ q, o = .inr (.inr q) → Q = Qn X none q) : V X 0 0 Q 14 [some (vr (xG X) 139), some (vi x1), some (vi x2), none, none, none] [] M := by
  unfold s_X12_laysTimes_14 at h
  refine x_iloadn hX dX12_laysTimes_14 rfl ?_
  refine x_aloadn hX dX12_laysTimes_15 rfl ?_
  obtain ⟨r_1, er_1, h⟩ := cl1_of h
  refine x_callVi (t := 11) (As := []) (rest := [vi x2]) hX dX12_laysTimes_16 (c_X12_zones (gk hX) (gl hX) hs M _ er_1) kX12_zones vX12_zones w_1971 (st139 hs) rfl rfl rfl rfl (Nat.le_of_ble_eq_true rfl) z0 ?_
  refine x_icmp_ge (tgt := 136) hX dX12_laysTimes_19 (by decide) rfl rfl (fun hc => ?_) (fun hc => ?_)
  · replace h := (if_pos hc).symm.trans h
    refine x_iconst hX dX12_laysTimes_22 ?_
    refine x_iloadn hX dX12_laysTimes_23 rfl ?_
    refine x_imul hX dX12_laysTimes_24 ?_
    refine x_iloadn hX dX12_laysTimes_25 rfl ?_
    refine x_iadd hX dX12_laysTimes_26 ?_
    obtain ⟨x3_3, ex3_3, h⟩ := bnd_of h
    refine x_istoren (ls' := [some (vr (xG X) 139), some (vi x1), some (vi x2), some (vi x3_3), none, none]) hX dX12_laysTimes_27 rfl ex3_3 rfl ?_
    refine x_iloadn hX dX12_laysTimes_28 rfl ?_
    refine x_if_ne (tgt := 36) hX dX12_laysTimes_29 (by decide) rfl (fun hc => ?_) (fun hc => ?_)
    · replace h := (if_pos hc).symm.trans h
      refine x_iconst hX dX12_laysTimes_32 ?_
      refine x_goto (tgt := 44) hX dX12_laysTimes_33 (by decide) ?_
      exact x_weak [true, true, true, true, false, false] rfl (tj_X12_laysTimes_44_14 hX hs x1 x2 x3_3 0 M o h hP hE hR)
    · replace h := (if_neg hc).symm.trans h
      refine x_aloadn hX dX12_laysTimes_36 rfl ?_
      refine x_getRj (j := 151) hX dX12_laysTimes_37 fl_X12_44 rfl (st139 hs) rfl ?_
      refine x_iloadn hX dX12_laysTimes_40 rfl ?_
      refine x_iconst hX dX12_laysTimes_41 ?_
      refine x_isub hX dX12_laysTimes_42 ?_
      obtain ⟨b_22, h⟩ := gi_of h
      refine x_iald hX dX12_laysTimes_43 (st151 hs) b_22 rfl ?_
      exact x_weak [true, true, true, true, false, false] rfl (tj_X12_laysTimes_44_14 hX hs x1 x2 x3_3 (M 151 (ix (x3_3 - 1))) M o h hP hE hR)
  · replace h := (if_neg hc).symm.trans h
    exact x_weak [true, true, false, false, false, false] rfl (hE M (Option.some.inj h).symm)
set_option maxRecDepth 100000 in
set_option maxHeartbeats 4000000 in
theorem ts_X12_laysTimes_2 {X : Cxt} (hX : Gd X RX12 cX12_laysTimes 6 (none) 3) (hs : SOK (xG X))  (x1 : Int) (M : Mem) {Q : State → Prop} (o : (Int × Mem) ⊕ ((Mem) ⊕ (Mem))) (h : s_X12_laysTimes_2 x1 M = some o) (hP : ∀ y, o = .inl y → V X 0 0 Q 2 [some (vr (xG X) 139), some (vi y.1), none, none, none, none] [] y.2) (hE : ∀ z, o = .inr (.inl z) → V X 0 0 Q 142 [none, none, none, none, none, none] [] z) (hR : ∀ q, o = .inr (.inr q) → Q = Qn X none q) : V X 0 0 Q 2 [some (vr (xG X) 139), some (vi x1), none, none, none, none] [] M := by
  unfold s_X12_laysTimes_2 at h
  refine x_iloadn hX dX12_laysTimes_2 rfl ?_
  refine x_aloadn hX dX12_laysTimes_3 rfl ?_
  refine x_getRj (j := 140) hX dX12_laysTimes_4 fl_X12_7 rfl (st139 hs) rfl ?_
  refine x_iconst hX dX12_laysTimes_7 ?_
  refine x_iald hX dX12_laysTimes_8 (st140 hs) inc_5_469 ixc_5 ?_
  refine x_icmp_ge (tgt := 142) hX dX12_laysTimes_9 (by decide) rfl rfl (fun hc => ?_) (fun hc => ?_)
  · replace h := (if_pos hc).symm.trans h
    refine x_iconst hX dX12_laysTimes_12 ?_
    refine x_istoren (ls' := [some (vr (xG X) 139), some (vi x1), some (vi 0), none, none, none]) hX dX12_laysTimes_13 rfl rfl rfl ?_
    refine x_weak (ls' := [some (vr (xG X) 139), some (vi x1), some (vi 0), none, none, none]) [true, true, true, false, false, false] rfl ?_
    refine lp_use (x := (0, M)) (P := fun x => V X 0 0 Q 14 [some (vr (xG X) 139), some (vi x1), some (vi x.1), none, none, none] [] x.2) (PE := fun z_23 => V X 0 0 Q 136 [some (vr (xG X) 139), some (vi x1), none, none, none, none] [] z_23) (PR := fun q => Q = Qn X none q) h (fun x o hh hP hE hR => ts_X12_laysTimes_14 hX hs x1 x.1 x.2 o hh hP hE hR) (fun z_23 h => ?_) (fun q h => ?_)
    · show V X 0 0 Q 136 [some (vr (xG X) 139), some (vi x1), none, none, none, none] [] z_23
      obtain ⟨x1_24, ex1_24, h⟩ := bnd_of h
      refine x_iinc (ls' := [some (vr (xG X) 139), some (vi x1_24), none, none, none, none]) hX dX12_laysTimes_136 rfl rfl ex1_24 rfl ?_
      refine x_goto (tgt := 2) hX dX12_laysTimes_139 (by decide) ?_
      exact x_weak [true, true, false, false, false, false] rfl (hP (x1_24, z_23) (Option.some.inj h).symm)
    · exact hR q (Option.some.inj h).symm
  · replace h := (if_neg hc).symm.trans h
    exact x_weak [false, false, false, false, false, false] rfl (hE M (Option.some.inj h).symm)
set_option maxRecDepth 100000 in
set_option maxHeartbeats 4000000 in
theorem c_X12_laysTimes {l : Launch} {G : Gx} (hG : GOK G) (hl : l.stackTraces = false) (hs : SOK G)  (M : Mem) (Mr : Mem) (h : f_X12_laysTimes M = some Mr) : Cn l G mX12_laysTimes 3 [vr G 139] M none Mr := by
  refine Cn_of2 (ls := [some (vr G 139), none, none, none, none, none]) hG hl kX12_laysTimes rfl (Nat.le_of_ble_eq_true rfl) rfl rfl rfl rfl rfl (fun X eG el hX => ?_)
  subst eG; subst el
  unfold f_X12_laysTimes at h
  refine x_iconst hX dX12_laysTimes_0 ?_
  refine x_istoren (ls' := [some (vr (xG X) 139), some (vi 0), none, none, none, none]) hX dX12_laysTimes_1 rfl rfl rfl ?_
  refine x_weak (ls' := [some (vr (xG X) 139), some (vi 0), none, none, none, none]) [true, true, false, false, false, false] rfl ?_
  refine lp_use (x := (0, M)) (P := fun x => V X 0 0 (Qn X none Mr) 2 [some (vr (xG X) 139), some (vi x.1), none, none, none, none] [] x.2) (PE := fun z_25 => V X 0 0 (Qn X none Mr) 142 [none, none, none, none, none, none] [] z_25) (PR := fun q => (Qn X none Mr) = Qn X none q) h (fun x o hh hP hE hR => ts_X12_laysTimes_2 hX hs x.1 x.2 o hh hP hE hR) (fun z_25 h => ?_) (fun q h => ?_)
  · show V X 0 0 (Qn X none Mr) 142 [none, none, none, none, none, none] [] z_25
    cases h
    exact x_vret hX dX12_laysTimes_142 rfl
  · cases h; rfl
set_option maxRecDepth 100000 in
set_option maxHeartbeats 4000000 in
theorem tj_X12_tardiness_69_16 {X : Cxt} (hX : Gd X RX12 cX12_tardiness 4 (some .int) 3) (hs : SOK (xG X))   (x2 : Int) (x3 : Int) (y0 : Int) (y1 : Int) (M : Mem) {Q : State → Prop} (o : (Int × Int) ⊕ ((Int) ⊕ (Int))) (h : j_X12_tardiness_69_16 x2 x3 y0 y1 M = some o) (hP : ∀ y, o = .inl y → V X 0 0 Q 16 [some (vr (xG X) 139), some (vi y.1), some (vi x2), some (vi y.2)] [] M) (hE : ∀ z, o = .inr (.inl z) → V X 0 0 Q 77 [some (vr (xG X) 139), some (vi z), some (vi x2), none] [] M) (hR : ∀ q, o = .inr (.inr q) → Q = Qn X (some (vi q)) M) : V X 0 0 Q 69 [some (vr (xG X) 139), none, some (vi x2), some (vi x3)] [vi y1, vi y0] M := by
  unfold j_X12_tardiness_69_16 at h
  refine x_iadd hX dX12_tardiness_69 ?_
  obtain ⟨x1_5, ex1_5, h⟩ := bnd_of h
  refine x_istoren (ls' := [some (vr (xG X) 139), some (vi x1_5), some (vi x2), some (vi x3)]) hX dX12_tardiness_70 rfl ex1_5 rfl ?_
  obtain ⟨x3_6, ex3_6, h⟩ := bnd_of h
  refine x_iinc (ls' := [some (vr (xG X) 139), some (vi x1_5), some (vi x2), some (vi x3_6)]) hX dX12_tardiness_71 rfl rfl ex3_6 rfl ?_
  refine x_goto (tgt := 16) hX dX12_tardiness_74 (by decide) ?_
  exact x_weak [true, true, true, true] rfl (hP (x1_5, x3_6) (Option.some.inj h).symm)
set_option maxRecDepth 100000 in
set_option maxHeartbeats 4000000 in
theorem ts_X12_tardiness_16 {X : Cxt} (hX : Gd X RX12 cX12_tardiness 4 (some .int) 3) (hs : SOK (xG X))  (x2 : Int) (M : Mem) (x1 : Int) (x3 : Int) {Q : State → Prop} (o : (Int × Int) ⊕ ((Int) ⊕ (Int))) (h : s_X12_tardiness_16 x2 M x1 x3 = some o) (hP : ∀ y, o = .inl y → V X 0 0 Q 16 [some (vr (xG X) 139), some (vi y.1), some (vi x2), some (vi y.2)] [] M) (hE : ∀ z, o = .inr (.inl z) → V X 0 0 Q 77 [some (vr (xG X) 139), some (vi z), some (vi x2), none] [] M) (hR : ∀ q, o = .inr (.inr q) → Q = Qn X (some (vi q)) M) : V X 0 0 Q 16 [some (vr (xG X) 139), some (vi x1), some (vi x2), some (vi x3)] [] M := by
  unfold s_X12_tardiness_16 at h
  refine x_iloadn hX dX12_tardiness_16 rfl ?_
  refine x_aloadn hX dX12_tardiness_17 rfl ?_
  refine x_getRj (j := 140) hX dX12_tardiness_18 fl_X12_7 rfl (st139 hs) rfl ?_
  refine x_iconst hX dX12_tardiness_21 ?_
  refine x_iald hX dX12_tardiness_22 (st140 hs) inc_4_469 ixc_4 ?_
  refine x_icmp_ge (tgt := 77) hX dX12_tardiness_23 (by decide) rfl rfl (fun hc => ?_) (fun hc => ?_)
  · replace h := (if_pos hc).symm.trans h
    refine x_iloadn hX dX12_tardiness_26 rfl ?_
    refine x_aloadn hX dX12_tardiness_27 rfl ?_
    refine x_getRj (j := 140) hX dX12_tardiness_28 fl_X12_7 rfl (st139 hs) rfl ?_
    refine x_sipush hX dX12_tardiness_31 sp_461 ?_
    refine x_aloadn hX dX12_tardiness_34 rfl ?_
    refine x_getRj (j := 149) hX dX12_tardiness_35 fl_X12_38 rfl (st139 hs) rfl ?_
    refine x_iloadn hX dX12_tardiness_38 rfl ?_
    obtain ⟨b_1, h⟩ := gi_of h
    refine x_iald hX dX12_tardiness_39 (st149 hs) b_1 rfl ?_
    refine x_iadd hX dX12_tardiness_40 ?_
    obtain ⟨b_2, h⟩ := gi_of h
    refine x_iald hX dX12_tardiness_41 (st140 hs) b_2 rfl ?_
    refine x_iloadn hX dX12_tardiness_42 rfl ?_
    obtain ⟨r_3, er_3, h⟩ := cl1_of h
    refine x_callSi (As := [vi (M 140 (ix (461 + (M 149 (ix x2))))), vi x3]) (rest := [vi x1]) hX dX12_tardiness_43 (c_X12_has (gk hX) (gl hX) (M 140 (ix (461 + (M 149 (ix x2))))) x3 M _ er_3) kX12_has sX12_has w_1868 rfl rfl rfl (Nat.le_of_ble_eq_true rfl) z0 ?_
    refine x_if_eq (tgt := 68) hX dX12_tardiness_46 (by decide) rfl (fun hc => ?_) (fun hc => ?_)
    · replace h := (if_pos hc).symm.trans h
      refine x_iconst hX dX12_tardiness_68 ?_
      exact x_weak [true, false, true, true] rfl (tj_X12_tardiness_69_16 hX hs x2 x3 x1 0 M o h hP hE hR)
    · replace h := (if_neg hc).symm.trans h
      refine x_iconst hX dX12_tardiness_49 ?_
      refine x_aloadn hX dX12_tardiness_50 rfl ?_
      refine x_iloadn hX dX12_tardiness_51 rfl ?_
      obtain ⟨r_7, er_7, h⟩ := cl1_of h
      refine x_callVi (t := 11) (As := [vi x2]) (rest := [vi 0, vi x1]) hX dX12_tardiness_52 (c_X12_completes (gk hX) (gl hX) hs x2 M _ er_7) kX12_completes vX12_completes w_2154 (st139 hs) rfl rfl rfl rfl (Nat.le_of_ble_eq_true rfl) z0 ?_
      refine x_aloadn hX dX12_tardiness_55 rfl ?_
      refine x_iloadn hX dX12_tardiness_56 rfl ?_
      refine x_iconst hX dX12_tardiness_57 ?_
      obtain ⟨r_9, er_9, h⟩ := cl1_of h
      refine x_callVi (t := 11) (As := [vi x3, vi 0]) (rest := [vi r_7, vi 0, vi x1]) hX dX12_tardiness_58 (c_X12_ofOrder (gk hX) (gl hX) hs x3 0 M _ er_9) kX12_ofOrder vX12_ofOrder w_1797 (st139 hs) rfl rfl rfl rfl (Nat.le_of_ble_eq_true rfl) z0 ?_
      refine x_isub hX dX12_tardiness_61 ?_
      obtain ⟨r_11, er_11, h⟩ := cl1_of h
      refine x_callSi (As := [vi 0, vi (r_7 - r_9)]) (rest := [vi x1]) hX dX12_tardiness_62 (c_X12_greater (gk hX) (gl hX) 0 (r_7 - r_9) M _ er_11) kX12_greater sX12_greater w_2131 rfl rfl rfl (Nat.le_of_ble_eq_true rfl) z0 ?_
      refine x_goto (tgt := 69) hX dX12_tardiness_65 (by decide) ?_
      exact x_weak [true, false, true, true] rfl (tj_X12_tardiness_69_16 hX hs x2 x3 x1 r_11 M o h hP hE hR)
  · replace h := (if_neg hc).symm.trans h
    exact x_weak [true, true, true, false] rfl (hE x1 (Option.some.inj h).symm)
set_option maxRecDepth 100000 in
set_option maxHeartbeats 4000000 in
theorem ts_X12_tardiness_4 {X : Cxt} (hX : Gd X RX12 cX12_tardiness 4 (some .int) 3) (hs : SOK (xG X))  (M : Mem) (x1 : Int) (x2 : Int) {Q : State → Prop} (o : (Int × Int) ⊕ ((Int) ⊕ (Int))) (h : s_X12_tardiness_4 M x1 x2 = some o) (hP : ∀ y, o = .inl y → V X 0 0 Q 4 [some (vr (xG X) 139), some (vi y.1), some (vi y.2), none] [] M) (hE : ∀ z, o = .inr (.inl z) → V X 0 0 Q 83 [none, some (vi z), none, none] [] M) (hR : ∀ q, o = .inr (.inr q) → Q = Qn X (some (vi q)) M) : V X 0 0 Q 4 [some (vr (xG X) 139), some (vi x1), some (vi x2), none] [] M := by
  unfold s_X12_tardiness_4 at h
  refine x_iloadn hX dX12_tardiness_4 rfl ?_
  refine x_aloadn hX dX12_tardiness_5 rfl ?_
  refine x_getRj (j := 140) hX dX12_tardiness_6 fl_X12_7 rfl (st139 hs) rfl ?_
  refine x_iconst hX dX12_tardiness_9 ?_
  refine x_iald hX dX12_tardiness_10 (st140 hs) inc_5_469 ixc_5 ?_
  refine x_icmp_ge (tgt := 83) hX dX12_tardiness_11 (by decide) rfl rfl (fun hc => ?_) (fun hc => ?_)
  · replace h := (if_pos hc).symm.trans h
    refine x_iconst hX dX12_tardiness_14 ?_
    refine x_istoren (ls' := [some (vr (xG X) 139), some (vi x1), some (vi x2), some (vi 0)]) hX dX12_tardiness_15 rfl rfl rfl ?_
    refine x_weak (ls' := [some (vr (xG X) 139), some (vi x1), some (vi x2), some (vi 0)]) [true, true, true, true] rfl ?_
    refine lp_use (x := (x1, 0)) (P := fun x => V X 0 0 Q 16 [some (vr (xG X) 139), some (vi x.1), some (vi x2), some (vi x.2)] [] M) (PE := fun z_13 => V X 0 0 Q 77 [some (vr (xG X) 139), some (vi z_13), some (vi x2), none] [] M) (PR := fun q => Q = Qn X (some (vi q)) M) h (fun x o hh hP hE hR => ts_X12_tardiness_16 hX hs x2 M x.1 x.2 o hh hP hE hR) (fun z_13 h => ?_) (fun q h => ?_)
    · show V X 0 0 Q 77 [some (vr (xG X) 139), some (vi z_13), some (vi x2), none] [] M
      obtain ⟨x2_14, ex2_14, h⟩ := bnd_of h
      refine x_iinc (ls' := [some (vr (xG X) 139), some (vi z_13), some (vi x2_14), none]) hX dX12_tardiness_77 rfl rfl ex2_14 rfl ?_
      refine x_goto (tgt := 4) hX dX12_tardiness_80 (by decide) ?_
      exact x_weak [true, true, true, false] rfl (hP (z_13, x2_14) (Option.some.inj h).symm)
    · exact hR q (Option.some.inj h).symm
  · replace h := (if_neg hc).symm.trans h
    exact x_weak [false, true, false, false] rfl (hE x1 (Option.some.inj h).symm)
set_option maxRecDepth 100000 in
set_option maxHeartbeats 4000000 in
theorem c_X12_tardiness {l : Launch} {G : Gx} (hG : GOK G) (hl : l.stackTraces = false) (hs : SOK G)  (M : Mem) (r : Int) (h : f_X12_tardiness M = some r) : Cn l G mX12_tardiness 3 [vr G 139] M (some (vi r)) M := by
  refine Cn_of2 (ls := [some (vr G 139), none, none, none]) hG hl kX12_tardiness rfl (Nat.le_of_ble_eq_true rfl) rfl rfl rfl rfl rfl (fun X eG el hX => ?_)
  subst eG; subst el
  unfold f_X12_tardiness at h
  refine x_iconst hX dX12_tardiness_0 ?_
  refine x_istoren (ls' := [some (vr (xG X) 139), some (vi 0), none, none]) hX dX12_tardiness_1 rfl rfl rfl ?_
  refine x_iconst hX dX12_tardiness_2 ?_
  refine x_istoren (ls' := [some (vr (xG X) 139), some (vi 0), some (vi 0), none]) hX dX12_tardiness_3 rfl rfl rfl ?_
  refine x_weak (ls' := [some (vr (xG X) 139), some (vi 0), some (vi 0), none]) [true, true, true, false] rfl ?_
  refine lp_use (x := (0, 0)) (P := fun x => V X 0 0 (Qn X (some (vi r)) M) 4 [some (vr (xG X) 139), some (vi x.1), some (vi x.2), none] [] M) (PE := fun z_15 => V X 0 0 (Qn X (some (vi r)) M) 83 [none, some (vi z_15), none, none] [] M) (PR := fun q => (Qn X (some (vi r)) M) = Qn X (some (vi q)) M) h (fun x o hh hP hE hR => ts_X12_tardiness_4 hX hs M x.1 x.2 o hh hP hE hR) (fun z_15 h => ?_) (fun q h => ?_)
  · show V X 0 0 (Qn X (some (vi r)) M) 83 [none, some (vi z_15), none, none] [] M
    refine x_iloadn hX dX12_tardiness_83 rfl ?_
    cases h
    exact x_iret hX dX12_tardiness_84 rfl
  · cases h; rfl
set_option maxRecDepth 100000 in
set_option maxHeartbeats 4000000 in
theorem tj_X12_earliestOf_44_6 {X : Cxt} (hX : Gd X RX12 cX12_earliestOf 4 (some .int) 3) (hs : SOK (xG X))   (x1 : Int) (x3 : Int) (y0 : Int) (M : Mem) {Q : State → Prop} (o : (Int × Int) ⊕ ((Int) ⊕ (Int))) (h : j_X12_earliestOf_44_6 x1 x3 y0 M = some o) (hP : ∀ y, o = .inl y → V X 0 0 Q 6 [some (vr (xG X) 139), some (vi x1), some (vi y.1), some (vi y.2)] [] M) (hE : ∀ z, o = .inr (.inl z) → V X 0 0 Q 51 [none, none, some (vi z), none] [] M) (hR : ∀ q, o = .inr (.inr q) → Q = Qn X (some (vi q)) M) : V X 0 0 Q 44 [some (vr (xG X) 139), some (vi x1), none, some (vi x3)] [vi y0] M := by
  unfold j_X12_earliestOf_44_6 at h
  refine x_istoren (ls' := [some (vr (xG X) 139), some (vi x1), some (vi y0), some (vi x3)]) hX dX12_earliestOf_44 rfl rfl rfl ?_
  obtain ⟨x3_3, ex3_3, h⟩ := bnd_of h
  refine x_iinc (ls' := [some (vr (xG X) 139), some (vi x1), some (vi y0), some (vi x3_3)]) hX dX12_earliestOf_45 rfl rfl ex3_3 rfl ?_
  refine x_goto (tgt := 6) hX dX12_earliestOf_48 (by decide) ?_
  exact x_weak [true, true, true, true] rfl (hP (y0, x3_3) (Option.some.inj h).symm)
set_option maxRecDepth 100000 in
set_option maxHeartbeats 4000000 in
theorem tj_X12_earliestOf_43_6 {X : Cxt} (hX : Gd X RX12 cX12_earliestOf 4 (some .int) 3) (hs : SOK (xG X))   (x1 : Int) (x2 : Int) (x3 : Int) (M : Mem) {Q : State → Prop} (o : (Int × Int) ⊕ ((Int) ⊕ (Int))) (h : j_X12_earliestOf_43_6 x1 x2 x3 M = some o) (hP : ∀ y, o = .inl y → V X 0 0 Q 6 [some (vr (xG X) 139), some (vi x1), some (vi y.1), some (vi y.2)] [] M) (hE : ∀ z, o = .inr (.inl z) → V X 0 0 Q 51 [none, none, some (vi z), none] [] M) (hR : ∀ q, o = .inr (.inr q) → Q = Qn X (some (vi q)) M) : V X 0 0 Q 43 [some (vr (xG X) 139), some (vi x1), some (vi x2), some (vi x3)] [] M := by
  unfold j_X12_earliestOf_43_6 at h
  refine x_iloadn hX dX12_earliestOf_43 rfl ?_
  exact x_weak [true, true, false, true] rfl (tj_X12_earliestOf_44_6 hX hs x1 x3 x2 M o h hP hE hR)
set_option maxRecDepth 100000 in
set_option maxHeartbeats 4000000 in
theorem ts_X12_earliestOf_6 {X : Cxt} (hX : Gd X RX12 cX12_earliestOf 4 (some .int) 3) (hs : SOK (xG X))  (x1 : Int) (M : Mem) (x2 : Int) (x3 : Int) {Q : State → Prop} (o : (Int × Int) ⊕ ((Int) ⊕ (Int))) (h : s_X12_earliestOf_6 x1 M x2 x3 = some o) (hP : ∀ y, o = .inl y → V X 0 0 Q 6 [some (vr (xG X) 139), some (vi x1), some (vi y.1), some (vi y.2)] [] M) (hE : ∀ z, o = .inr (.inl z) → V X 0 0 Q 51 [none, none, some (vi z), none] [] M) (hR : ∀ q, o = .inr (.inr q) → Q = Qn X (some (vi q)) M) : V X 0 0 Q 6 [some (vr (xG X) 139), some (vi x1), some (vi x2), some (vi x3)] [] M := by
  unfold s_X12_earliestOf_6 at h
  refine x_iloadn hX dX12_earliestOf_6 rfl ?_
  refine x_aloadn hX dX12_earliestOf_7 rfl ?_
  refine x_getRj (j := 140) hX dX12_earliestOf_8 fl_X12_7 rfl (st139 hs) rfl ?_
  refine x_iconst hX dX12_earliestOf_11 ?_
  refine x_iald hX dX12_earliestOf_12 (st140 hs) inc_4_469 ixc_4 ?_
  refine x_icmp_ge (tgt := 51) hX dX12_earliestOf_13 (by decide) rfl rfl (fun hc => ?_) (fun hc => ?_)
  · replace h := (if_pos hc).symm.trans h
    refine x_iloadn hX dX12_earliestOf_16 rfl ?_
    refine x_iloadn hX dX12_earliestOf_17 rfl ?_
    obtain ⟨r_1, er_1, h⟩ := cl1_of h
    refine x_callSi (As := [vi x1, vi x3]) (rest := []) hX dX12_earliestOf_18 (c_X12_has (gk hX) (gl hX) x1 x3 M _ er_1) kX12_has sX12_has w_1868 rfl rfl rfl (Nat.le_of_ble_eq_true rfl) z0 ?_
    refine x_if_eq (tgt := 43) hX dX12_earliestOf_21 (by decide) rfl (fun hc => ?_) (fun hc => ?_)
    · replace h := (if_pos hc).symm.trans h
      exact x_weak [true, true, true, true] rfl (tj_X12_earliestOf_43_6 hX hs x1 x2 x3 M o h hP hE hR)
    · replace h := (if_neg hc).symm.trans h
      refine x_aloadn hX dX12_earliestOf_24 rfl ?_
      refine x_iloadn hX dX12_earliestOf_25 rfl ?_
      refine x_iconst hX dX12_earliestOf_26 ?_
      obtain ⟨r_4, er_4, h⟩ := cl1_of h
      refine x_callVi (t := 11) (As := [vi x3, vi 0]) (rest := []) hX dX12_earliestOf_27 (c_X12_ofOrder (gk hX) (gl hX) hs x3 0 M _ er_4) kX12_ofOrder vX12_ofOrder w_1797 (st139 hs) rfl rfl rfl rfl (Nat.le_of_ble_eq_true rfl) z0 ?_
      refine x_iloadn hX dX12_earliestOf_30 rfl ?_
      refine x_icmp_ge (tgt := 43) hX dX12_earliestOf_31 (by decide) rfl rfl (fun hc => ?_) (fun hc => ?_)
      · replace h := (if_pos hc).symm.trans h
        refine x_aloadn hX dX12_earliestOf_34 rfl ?_
        refine x_iloadn hX dX12_earliestOf_35 rfl ?_
        refine x_iconst hX dX12_earliestOf_36 ?_
        obtain ⟨r_6, er_6, h⟩ := cl1_of h
        refine x_callVi (t := 11) (As := [vi x3, vi 0]) (rest := []) hX dX12_earliestOf_37 (c_X12_ofOrder (gk hX) (gl hX) hs x3 0 M _ er_6) kX12_ofOrder vX12_ofOrder w_1797 (st139 hs) rfl rfl rfl rfl (Nat.le_of_ble_eq_true rfl) z0 ?_
        refine x_goto (tgt := 44) hX dX12_earliestOf_40 (by decide) ?_
        exact x_weak [true, true, false, true] rfl (tj_X12_earliestOf_44_6 hX hs x1 x3 r_6 M o h hP hE hR)
      · replace h := (if_neg hc).symm.trans h
        exact x_weak [true, true, true, true] rfl (tj_X12_earliestOf_43_6 hX hs x1 x2 x3 M o h hP hE hR)
  · replace h := (if_neg hc).symm.trans h
    exact x_weak [false, false, true, false] rfl (hE x2 (Option.some.inj h).symm)
set_option maxRecDepth 100000 in
set_option maxHeartbeats 4000000 in
theorem c_X12_earliestOf {l : Launch} {G : Gx} (hG : GOK G) (hl : l.stackTraces = false) (hs : SOK G)  (x1 : Int) (M : Mem) (r : Int) (h : f_X12_earliestOf x1 M = some r) : Cn l G mX12_earliestOf 3 [vr G 139, vi x1] M (some (vi r)) M := by
  refine Cn_of2 (ls := [some (vr G 139), some (vi x1), none, none]) hG hl kX12_earliestOf rfl (Nat.le_of_ble_eq_true rfl) rfl rfl rfl rfl rfl (fun X eG el hX => ?_)
  subst eG; subst el
  unfold f_X12_earliestOf at h
  refine x_sipush hX dX12_earliestOf_0 sp_9999 ?_
  refine x_istoren (ls' := [some (vr (xG X) 139), some (vi x1), some (vi 9999), none]) hX dX12_earliestOf_3 rfl rfl rfl ?_
  refine x_iconst hX dX12_earliestOf_4 ?_
  refine x_istoren (ls' := [some (vr (xG X) 139), some (vi x1), some (vi 9999), some (vi 0)]) hX dX12_earliestOf_5 rfl rfl rfl ?_
  refine x_weak (ls' := [some (vr (xG X) 139), some (vi x1), some (vi 9999), some (vi 0)]) [true, true, true, true] rfl ?_
  refine lp_use (x := (9999, 0)) (P := fun x => V X 0 0 (Qn X (some (vi r)) M) 6 [some (vr (xG X) 139), some (vi x1), some (vi x.1), some (vi x.2)] [] M) (PE := fun z_8 => V X 0 0 (Qn X (some (vi r)) M) 51 [none, none, some (vi z_8), none] [] M) (PR := fun q => (Qn X (some (vi r)) M) = Qn X (some (vi q)) M) h (fun x o hh hP hE hR => ts_X12_earliestOf_6 hX hs x1 M x.1 x.2 o hh hP hE hR) (fun z_8 h => ?_) (fun q h => ?_)
  · show V X 0 0 (Qn X (some (vi r)) M) 51 [none, none, some (vi z_8), none] [] M
    refine x_iloadn hX dX12_earliestOf_51 rfl ?_
    cases h
    exact x_iret hX dX12_earliestOf_52 rfl
  · cases h; rfl
set_option maxRecDepth 100000 in
set_option maxHeartbeats 4000000 in
theorem ts_X12_pickBatch_53 {X : Cxt} (hX : Gd X RX12 cX12_pickBatch 5 (some .int) 3) (hs : SOK (xG X))  (x1 : Int) (x3 : Int) (x2 : Int) (x4 : Int) (M : Mem) {Q : State → Prop} (o : (Int × Int × Mem) ⊕ ((Int × Mem) ⊕ (Int × Mem))) (h : s_X12_pickBatch_53 x1 x3 x2 x4 M = some o) (hP : ∀ y, o = .inl y → V X 0 0 Q 53 [some (vr (xG X) 139), some (vi x1), some (vi y.1), some (vi x3), some (vi y.2.1)] [] y.2.2) (hE : ∀ z, o = .inr (.inl z) → V X 0 0 Q 88 [some (vr (xG X) 139), some (vi x1), some (vi z.1), some (vi x3), none] [] z.2) (hR : ∀ q, o = .inr (.inr q) → Q = Qn X (some (vi q.1)) q.2) : V X 0 0 Q 53 [some (vr (xG X) 139), some (vi x1), some (vi x2), some (vi x3), some (vi x4)] [] M := by
  unfold s_X12_pickBatch_53 at h
  refine x_iloadn hX dX12_pickBatch_53 rfl ?_
  refine x_iloadn hX dX12_pickBatch_54 rfl ?_
  obtain ⟨r_3, er_3, h⟩ := cl1_of h
  refine x_callSi (As := [vi x1, vi x3]) (rest := []) hX dX12_pickBatch_55 (c_X12_has (gk hX) (gl hX) x1 x3 M _ er_3) kX12_has sX12_has w_1868 rfl rfl rfl (Nat.le_of_ble_eq_true rfl) z0 ?_
  refine x_if_eq (tgt := 88) hX dX12_pickBatch_58 (by decide) rfl (fun hc => ?_) (fun hc => ?_)
  · replace h := (if_pos hc).symm.trans h
    exact x_weak [true, true, true, true, false] rfl (hE (x2, M) (Option.some.inj h).symm)
  · replace h := (if_neg hc).symm.trans h
    refine x_iload hX dX12_pickBatch_61 rfl ?_
    refine x_aloadn hX dX12_pickBatch_63 rfl ?_
    refine x_iloadn hX dX12_pickBatch_64 rfl ?_
    refine x_iconst hX dX12_pickBatch_65 ?_
    obtain ⟨r_5, er_5, h⟩ := cl1_of h
    refine x_callVi (t := 11) (As := [vi x3, vi 2]) (rest := [vi x4]) hX dX12_pickBatch_66 (c_X12_ofOrder (gk hX) (gl hX) hs x3 2 M _ er_5) kX12_ofOrder vX12_ofOrder w_1797 (st139 hs) rfl rfl rfl rfl (Nat.le_of_ble_eq_true rfl) z0 ?_
    refine x_icmp_ge (tgt := 88) hX dX12_pickBatch_69 (by decide) rfl rfl (fun hc => ?_) (fun hc => ?_)
    · replace h := (if_pos hc).symm.trans h
      refine x_iloadn hX dX12_pickBatch_72 rfl ?_
      refine x_aloadn hX dX12_pickBatch_73 rfl ?_
      refine x_iloadn hX dX12_pickBatch_74 rfl ?_
      refine x_iload hX dX12_pickBatch_75 rfl ?_
      obtain ⟨r_7, M_8, er_7, h⟩ := cl2_of h
      refine x_callVi (t := 11) (As := [vi x3, vi x4]) (rest := [vi x2]) hX dX12_pickBatch_77 (c_X12_picks (gk hX) (gl hX) hs x3 x4 M _ _ er_7) kX12_picks vX12_picks w_2221 (st139 hs) rfl rfl rfl rfl (Nat.le_of_ble_eq_true rfl) z0 ?_
      refine x_iadd hX dX12_pickBatch_80 ?_
      obtain ⟨x2_9, ex2_9, h⟩ := bnd_of h
      refine x_istoren (ls' := [some (vr (xG X) 139), some (vi x1), some (vi x2_9), some (vi x3), some (vi x4)]) hX dX12_pickBatch_81 rfl ex2_9 rfl ?_
      obtain ⟨x4_10, ex4_10, h⟩ := bnd_of h
      refine x_iinc (ls' := [some (vr (xG X) 139), some (vi x1), some (vi x2_9), some (vi x3), some (vi x4_10)]) hX dX12_pickBatch_82 rfl rfl ex4_10 rfl ?_
      refine x_goto (tgt := 53) hX dX12_pickBatch_85 (by decide) ?_
      exact x_weak [true, true, true, true, true] rfl (hP (x2_9, x4_10, M_8) (Option.some.inj h).symm)
    · replace h := (if_neg hc).symm.trans h
      exact x_weak [true, true, true, true, false] rfl (hE (x2, M) (Option.some.inj h).symm)
set_option maxRecDepth 100000 in
set_option maxHeartbeats 4000000 in
theorem tj_X12_pickBatch_88_40 {X : Cxt} (hX : Gd X RX12 cX12_pickBatch 5 (some .int) 3) (hs : SOK (xG X))   (x1 : Int) (x2 : Int) (x3 : Int) (M : Mem) {Q : State → Prop} (o : (Int × Int × Mem) ⊕ ((Int × Mem) ⊕ (Int × Mem))) (h : j_X12_pickBatch_88_40 x1 x2 x3 M = some o) (hP : ∀ y, o = .inl y → V X 0 0 Q 40 [some (vr (xG X) 139), some (vi x1), some (vi y.1), some (vi y.2.1), none] [] y.2.2) (hE : ∀ z, o = .inr (.inl z) → V X 0 0 Q 94 [some (vr (xG X) 139), some (vi x1), some (vi z.1), none, none] [] z.2) (hR : ∀ q, o = .inr (.inr q) → Q = Qn X (some (vi q.1)) q.2) : V X 0 0 Q 88 [some (vr (xG X) 139), some (vi x1), some (vi x2), some (vi x3), none] [] M := by
  unfold j_X12_pickBatch_88_40 at h
  obtain ⟨x3_12, ex3_12, h⟩ := bnd_of h
  refine x_iinc (ls' := [some (vr (xG X) 139), some (vi x1), some (vi x2), some (vi x3_12), none]) hX dX12_pickBatch_88 rfl rfl ex3_12 rfl ?_
  refine x_goto (tgt := 40) hX dX12_pickBatch_91 (by decide) ?_
  exact x_weak [true, true, true, true, false] rfl (hP (x2, x3_12, M) (Option.some.inj h).symm)
set_option maxRecDepth 100000 in
set_option maxHeartbeats 4000000 in
theorem ts_X12_pickBatch_40 {X : Cxt} (hX : Gd X RX12 cX12_pickBatch 5 (some .int) 3) (hs : SOK (xG X))  (x1 : Int) (x2 : Int) (x3 : Int) (M : Mem) {Q : State → Prop} (o : (Int × Int × Mem) ⊕ ((Int × Mem) ⊕ (Int × Mem))) (h : s_X12_pickBatch_40 x1 x2 x3 M = some o) (hP : ∀ y, o = .inl y → V X 0 0 Q 40 [some (vr (xG X) 139), some (vi x1), some (vi y.1), some (vi y.2.1), none] [] y.2.2) (hE : ∀ z, o = .inr (.inl z) → V X 0 0 Q 94 [some (vr (xG X) 139), some (vi x1), some (vi z.1), none, none] [] z.2) (hR : ∀ q, o = .inr (.inr q) → Q = Qn X (some (vi q.1)) q.2) : V X 0 0 Q 40 [some (vr (xG X) 139), some (vi x1), some (vi x2), some (vi x3), none] [] M := by
  unfold s_X12_pickBatch_40 at h
  refine x_iloadn hX dX12_pickBatch_40 rfl ?_
  refine x_aloadn hX dX12_pickBatch_41 rfl ?_
  refine x_getRj (j := 140) hX dX12_pickBatch_42 fl_X12_7 rfl (st139 hs) rfl ?_
  refine x_iconst hX dX12_pickBatch_45 ?_
  refine x_iald hX dX12_pickBatch_46 (st140 hs) inc_4_469 ixc_4 ?_
  refine x_icmp_ge (tgt := 94) hX dX12_pickBatch_47 (by decide) rfl rfl (fun hc => ?_) (fun hc => ?_)
  · replace h := (if_pos hc).symm.trans h
    refine x_iconst hX dX12_pickBatch_50 ?_
    refine x_istore (ls' := [some (vr (xG X) 139), some (vi x1), some (vi x2), some (vi x3), some (vi 0)]) hX dX12_pickBatch_51 rfl rfl rfl ?_
    refine x_weak (ls' := [some (vr (xG X) 139), some (vi x1), some (vi x2), some (vi x3), some (vi 0)]) [true, true, true, true, true] rfl ?_
    refine lp_use (x := (x2, 0, M)) (P := fun x => V X 0 0 Q 53 [some (vr (xG X) 139), some (vi x1), some (vi x.1), some (vi x3), some (vi x.2.1)] [] x.2.2) (PE := fun z_11 => V X 0 0 Q 88 [some (vr (xG X) 139), some (vi x1), some (vi z_11.1), some (vi x3), none] [] z_11.2) (PR := fun q => Q = Qn X (some (vi q.1)) q.2) h (fun x o hh hP hE hR => ts_X12_pickBatch_53 hX hs x1 x3 x.1 x.2.1 x.2.2 o hh hP hE hR) (fun z_11 h => ?_) (fun q h => ?_)
    · show V X 0 0 Q 88 [some (vr (xG X) 139), some (vi x1), some (vi z_11.1), some (vi x3), none] [] z_11.2
      exact x_weak [true, true, true, true, false] rfl (tj_X12_pickBatch_88_40 hX hs x1 z_11.1 x3 z_11.2 o h hP hE hR)
    · exact hR q (Option.some.inj h).symm
  · replace h := (if_neg hc).symm.trans h
    exact x_weak [true, true, true, false, false] rfl (hE (x2, M) (Option.some.inj h).symm)
set_option maxRecDepth 100000 in
set_option maxHeartbeats 4000000 in
theorem tj_X12_pickBatch_15 {X : Cxt} (hX : Gd X RX12 cX12_pickBatch 5 (some .int) 3) (hs : SOK (xG X))   (y1 : Int) (M : Mem) (r : Int) (Mr : Mem) (h : j_X12_pickBatch_15 y1 M = some (r, Mr)) : V X 0 0 (Qn X (some (vi r)) Mr) 15 [some (vr (xG X) 139), none, none, none, none] [vi y1, vr (xG X) 139] M := by
  unfold j_X12_pickBatch_15 at h
  obtain ⟨M_1, eM_1, h⟩ := bnd_of h
  refine x_putI hX dX12_pickBatch_15 fp_X12_70 rfl (st139 hs) (x_meq eM_1 ?_)
  refine x_aloadn hX dX12_pickBatch_18 rfl ?_
  refine x_getI hX dX12_pickBatch_19 fl_X12_70 rfl (st139 hs) ?_
  refine x_if_le (tgt := 27) hX dX12_pickBatch_22 (by decide) rfl (fun hc => ?_) (fun hc => ?_)
  · replace h := (if_pos hc).symm.trans h
    refine x_iconst hX dX12_pickBatch_25 ?_
    cases h
    exact x_iret hX dX12_pickBatch_26 rfl
  · replace h := (if_neg hc).symm.trans h
    refine x_aloadn hX dX12_pickBatch_27 rfl ?_
    refine x_getRj (j := 140) hX dX12_pickBatch_28 fl_X12_7 rfl (st139 hs) rfl ?_
    refine x_sipush hX dX12_pickBatch_31 sp_461 ?_
    refine x_iald hX dX12_pickBatch_34 (st140 hs) inc_461_469 ixc_461 ?_
    obtain ⟨x1_2, ex1_2, h⟩ := bnd_of h
    refine x_istoren (ls' := [some (vr (xG X) 139), some (vi x1_2), none, none, none]) hX dX12_pickBatch_35 rfl ex1_2 rfl ?_
    refine x_iconst hX dX12_pickBatch_36 ?_
    refine x_istoren (ls' := [some (vr (xG X) 139), some (vi x1_2), some (vi 0), none, none]) hX dX12_pickBatch_37 rfl rfl rfl ?_
    refine x_iconst hX dX12_pickBatch_38 ?_
    refine x_istoren (ls' := [some (vr (xG X) 139), some (vi x1_2), some (vi 0), some (vi 0), none]) hX dX12_pickBatch_39 rfl rfl rfl ?_
    refine x_weak (ls' := [some (vr (xG X) 139), some (vi x1_2), some (vi 0), some (vi 0), none]) [true, true, true, true, false] rfl ?_
    refine lp_use (x := (0, 0, M_1)) (P := fun x => V X 0 0 (Qn X (some (vi r)) Mr) 40 [some (vr (xG X) 139), some (vi x1_2), some (vi x.1), some (vi x.2.1), none] [] x.2.2) (PE := fun z_13 => V X 0 0 (Qn X (some (vi r)) Mr) 94 [some (vr (xG X) 139), some (vi x1_2), some (vi z_13.1), none, none] [] z_13.2) (PR := fun q => (Qn X (some (vi r)) Mr) = Qn X (some (vi q.1)) q.2) h (fun x o hh hP hE hR => ts_X12_pickBatch_40 hX hs x1_2 x.1 x.2.1 x.2.2 o hh hP hE hR) (fun z_13 h => ?_) (fun q h => ?_)
    · show V X 0 0 (Qn X (some (vi r)) Mr) 94 [some (vr (xG X) 139), some (vi x1_2), some (vi z_13.1), none, none] [] z_13.2
      refine x_aloadn hX dX12_pickBatch_94 rfl ?_
      refine x_iloadn hX dX12_pickBatch_95 rfl ?_
      refine x_iconst hX dX12_pickBatch_96 ?_
      obtain ⟨M_15, er_14, h⟩ := cl1_of h
      refine x_callVv (t := 11) (As := [vi x1_2, vi 2]) (rest := []) hX dX12_pickBatch_97 (c_X12_setsStates (gk hX) (gl hX) hs x1_2 2 z_13.2 _ er_14) kX12_setsStates vX12_setsStates w_1915 (st139 hs) rfl rfl rfl rfl (Nat.le_of_ble_eq_true rfl) z0 ?_
      refine x_aloadn hX dX12_pickBatch_100 rfl ?_
      refine x_iconst hX dX12_pickBatch_101 ?_
      obtain ⟨M_17, er_16, h⟩ := cl1_of h
      refine x_callVv (t := 11) (As := [vi 0]) (rest := []) hX dX12_pickBatch_102 (c_X12_removes (gk hX) (gl hX) hs 0 M_15 _ er_16) kX12_removes vX12_removes w_1871 (st139 hs) rfl rfl rfl rfl (Nat.le_of_ble_eq_true rfl) z0 ?_
      refine x_iloadn hX dX12_pickBatch_105 rfl ?_
      cases h
      exact x_iret hX dX12_pickBatch_106 rfl
    · cases h; rfl
set_option maxRecDepth 100000 in
set_option maxHeartbeats 4000000 in
theorem c_X12_pickBatch {l : Launch} {G : Gx} (hG : GOK G) (hl : l.stackTraces = false) (hs : SOK G)  (M : Mem) (r : Int) (Mr : Mem) (h : f_X12_pickBatch M = some (r, Mr)) : Cn l G mX12_pickBatch 3 [vr G 139] M (some (vi r)) Mr := by
  refine Cn_of2 (ls := [some (vr G 139), none, none, none, none]) hG hl kX12_pickBatch rfl (Nat.le_of_ble_eq_true rfl) rfl rfl rfl rfl rfl (fun X eG el hX => ?_)
  subst eG; subst el
  unfold f_X12_pickBatch at h
  refine x_aloadn hX dX12_pickBatch_0 rfl ?_
  refine x_aloadn hX dX12_pickBatch_1 rfl ?_
  refine x_getRj (j := 140) hX dX12_pickBatch_2 fl_X12_7 rfl (st139 hs) rfl ?_
  refine x_iconst hX dX12_pickBatch_5 ?_
  refine x_iald hX dX12_pickBatch_6 (st140 hs) inc_5_469 ixc_5 ?_
  refine x_if_le (tgt := 14) hX dX12_pickBatch_7 (by decide) rfl (fun hc => ?_) (fun hc => ?_)
  · replace h := (if_pos hc).symm.trans h
    refine x_iconst hX dX12_pickBatch_10 ?_
    refine x_goto (tgt := 15) hX dX12_pickBatch_11 (by decide) ?_
    exact x_weak [true, false, false, false, false] rfl (tj_X12_pickBatch_15 hX hs 0 M r Mr h)
  · replace h := (if_neg hc).symm.trans h
    refine x_iconst hX dX12_pickBatch_14 ?_
    exact x_weak [true, false, false, false, false] rfl (tj_X12_pickBatch_15 hX hs 1 M r Mr h)
