-- written by wip/gen/emit.py: X12_ofLine, X12_sumOf, X12_shortOf, X12_next, X12_addLine, X12_orderState, X12_lineCount, X12_due, X12_setDue, X12_orderWeight, X12_orderAisles, X12_cancel, X12_candidates, X12_seedBy
set_option maxRecDepth 100000 in
set_option maxHeartbeats 4000000 in
theorem tj_X12_ofLine_30 {X : Cxt} (hX : Gd X RX12 cX12_ofLine 5 (some .int) 3) (hs : SOK (xG X))   (x1 : Int) (x2 : Int) (x3 : Int) (y1 : Int) (M : Mem) (r : Int) (Mr : Mem) (h : j_X12_ofLine_30 x1 x2 x3 y1 M = some (r, Mr)) : V X 0 0 (Qn X (some (vi r)) Mr) 30 [some (vr (xG X) 139), some (vi x1), some (vi x2), some (vi x3), none] [vi y1, vr (xG X) 139] M := by
  unfold j_X12_ofLine_30 at h
  obtain ⟨M_3, eM_3, h⟩ := bnd_of h
  refine x_putI hX dX12_ofLine_30 fp_X12_70 rfl (st139 hs) (x_meq eM_3 ?_)
  refine x_aloadn hX dX12_ofLine_33 rfl ?_
  refine x_getI hX dX12_ofLine_34 fl_X12_70 rfl (st139 hs) ?_
  refine x_if_gt (tgt := 50) hX dX12_ofLine_37 (by decide) rfl (fun hc => ?_) (fun hc => ?_)
  · replace h := (if_pos hc).symm.trans h
    refine x_iconst hX dX12_ofLine_50 ?_
    cases h
    exact x_iret hX dX12_ofLine_51 rfl
  · replace h := (if_neg hc).symm.trans h
    refine x_aloadn hX dX12_ofLine_40 rfl ?_
    refine x_iloadn hX dX12_ofLine_41 rfl ?_
    refine x_iconst hX dX12_ofLine_42 ?_
    obtain ⟨r_4, er_4, h⟩ := cl1_of h
    refine x_callVi (t := 11) (As := [vi x1, vi 1]) (rest := []) hX dX12_ofLine_43 (c_X12_ofOrder (gk hX) (gl hX) hs x1 1 M_3 _ er_4) kX12_ofOrder vX12_ofOrder w_1797 (st139 hs) rfl rfl rfl rfl (Nat.le_of_ble_eq_true rfl) z0 ?_
    refine x_iconst hX dX12_ofLine_46 ?_
    refine x_icmp_eq (tgt := 52) hX dX12_ofLine_47 (by decide) rfl cw_2 (fun hc => ?_) (fun hc => ?_)
    · replace h := (if_pos hc).symm.trans h
      refine x_iloadn hX dX12_ofLine_52 rfl ?_
      refine x_iloadn hX dX12_ofLine_53 rfl ?_
      obtain ⟨r_6, er_6, h⟩ := cl1_of h
      refine x_callSi (As := [vi x1, vi x2]) (rest := []) hX dX12_ofLine_54 (c_X12_lineAt (gk hX) (gl hX) x1 x2 M_3 _ er_6) kX12_lineAt sX12_lineAt w_1805 rfl rfl rfl (Nat.le_of_ble_eq_true rfl) z0 ?_
      refine x_istore (ls' := [some (vr (xG X) 139), some (vi x1), some (vi x2), some (vi x3), some (vi r_6)]) hX dX12_ofLine_57 rfl rfl rfl ?_
      refine x_iloadn hX dX12_ofLine_59 rfl ?_
      refine x_if_eq (tgt := 85) hX dX12_ofLine_60 (by decide) rfl (fun hc => ?_) (fun hc => ?_)
      · replace h := (if_pos hc).symm.trans h
        refine x_aloadn hX dX12_ofLine_85 rfl ?_
        refine x_getRj (j := 140) hX dX12_ofLine_86 fl_X12_7 rfl (st139 hs) rfl ?_
        refine x_iload hX dX12_ofLine_89 rfl ?_
        refine x_iconst hX dX12_ofLine_91 ?_
        refine x_iadd hX dX12_ofLine_92 ?_
        obtain ⟨b_8, h⟩ := gi_of h
        refine x_iald hX dX12_ofLine_93 (st140 hs) b_8 rfl ?_
        cases h
        exact x_iret hX dX12_ofLine_94 rfl
      · replace h := (if_neg hc).symm.trans h
        refine x_aloadn hX dX12_ofLine_63 rfl ?_
        refine x_getRj (j := 140) hX dX12_ofLine_64 fl_X12_7 rfl (st139 hs) rfl ?_
        refine x_iload hX dX12_ofLine_67 rfl ?_
        refine x_iconst hX dX12_ofLine_69 ?_
        refine x_iadd hX dX12_ofLine_70 ?_
        obtain ⟨b_9, h⟩ := gi_of h
        refine x_iald hX dX12_ofLine_71 (st140 hs) b_9 rfl ?_
        refine x_aloadn hX dX12_ofLine_72 rfl ?_
        refine x_getRj (j := 140) hX dX12_ofLine_73 fl_X12_7 rfl (st139 hs) rfl ?_
        refine x_iload hX dX12_ofLine_76 rfl ?_
        refine x_iconst hX dX12_ofLine_78 ?_
        refine x_iadd hX dX12_ofLine_79 ?_
        obtain ⟨b_10, h⟩ := gi_of h
        refine x_iald hX dX12_ofLine_80 (st140 hs) b_10 rfl ?_
        refine x_isub hX dX12_ofLine_81 ?_
        refine x_goto (tgt := 94) hX dX12_ofLine_82 (by decide) ?_
        cases h
        exact x_iret hX dX12_ofLine_94 rfl
    · replace h := (if_neg hc).symm.trans h
      refine x_iconst hX dX12_ofLine_50 ?_
      cases h
      exact x_iret hX dX12_ofLine_51 rfl
set_option maxRecDepth 100000 in
set_option maxHeartbeats 4000000 in
theorem tj_X12_ofLine_29 {X : Cxt} (hX : Gd X RX12 cX12_ofLine 5 (some .int) 3) (hs : SOK (xG X))   (x1 : Int) (x2 : Int) (x3 : Int) (M : Mem) (r : Int) (Mr : Mem) (h : j_X12_ofLine_29 x1 x2 x3 M = some (r, Mr)) : V X 0 0 (Qn X (some (vi r)) Mr) 29 [some (vr (xG X) 139), some (vi x1), some (vi x2), some (vi x3), none] [vr (xG X) 139] M := by
  unfold j_X12_ofLine_29 at h
  refine x_iconst hX dX12_ofLine_29 ?_
  exact x_weak [true, true, true, true, false] rfl (tj_X12_ofLine_30 hX hs x1 x2 x3 1 M r Mr h)
set_option maxRecDepth 100000 in
set_option maxHeartbeats 4000000 in
theorem c_X12_ofLine {l : Launch} {G : Gx} (hG : GOK G) (hl : l.stackTraces = false) (hs : SOK G)  (x1 : Int) (x2 : Int) (x3 : Int) (M : Mem) (r : Int) (Mr : Mem) (h : f_X12_ofLine x1 x2 x3 M = some (r, Mr)) : Cn l G mX12_ofLine 3 [vr G 139, vi x1, vi x2, vi x3] M (some (vi r)) Mr := by
  refine Cn_of2 (ls := [some (vr G 139), some (vi x1), some (vi x2), some (vi x3), none]) hG hl kX12_ofLine rfl (Nat.le_of_ble_eq_true rfl) rfl rfl rfl rfl rfl (fun X eG el hX => ?_)
  subst eG; subst el
  unfold f_X12_ofLine at h
  refine x_aloadn hX dX12_ofLine_0 rfl ?_
  refine x_aloadn hX dX12_ofLine_1 rfl ?_
  refine x_iloadn hX dX12_ofLine_2 rfl ?_
  obtain ⟨r_1, er_1, h⟩ := cl1_of h
  refine x_callVi (t := 11) (As := [vi x1]) (rest := [vr (xG X) 139]) hX dX12_ofLine_3 (c_X12_isOrder (gk hX) (gl hX) hs x1 M _ er_1) kX12_isOrder vX12_isOrder w_1793 (st139 hs) rfl rfl rfl rfl (Nat.le_of_ble_eq_true rfl) z0 ?_
  refine x_if_eq (tgt := 29) hX dX12_ofLine_6 (by decide) rfl (fun hc => ?_) (fun hc => ?_)
  · replace h := (if_pos hc).symm.trans h
    exact x_weak [true, true, true, true, false] rfl (tj_X12_ofLine_29 hX hs x1 x2 x3 M r Mr h)
  · replace h := (if_neg hc).symm.trans h
    refine x_iloadn hX dX12_ofLine_9 rfl ?_
    refine x_iconst hX dX12_ofLine_10 ?_
    refine x_aloadn hX dX12_ofLine_11 rfl ?_
    refine x_iloadn hX dX12_ofLine_12 rfl ?_
    refine x_iconst hX dX12_ofLine_13 ?_
    obtain ⟨r_11, er_11, h⟩ := cl1_of h
    refine x_callVi (t := 11) (As := [vi x1, vi 2]) (rest := [vi 0, vi x2, vr (xG X) 139]) hX dX12_ofLine_14 (c_X12_ofOrder (gk hX) (gl hX) hs x1 2 M _ er_11) kX12_ofOrder vX12_ofOrder w_1797 (st139 hs) rfl rfl rfl rfl (Nat.le_of_ble_eq_true rfl) z0 ?_
    refine x_iconst hX dX12_ofLine_17 ?_
    refine x_isub hX dX12_ofLine_18 ?_
    obtain ⟨r_13, er_13, h⟩ := cl1_of h
    refine x_callSi (As := [vi x2, vi 0, vi (r_11 - 1)]) (rest := [vr (xG X) 139]) hX dX12_ofLine_19 (c_X12_in (gk hX) (gl hX) x2 0 (r_11 - 1) M _ er_13) kX12_in sX12_in w_1735 rfl rfl rfl (Nat.le_of_ble_eq_true rfl) z0 ?_
    refine x_if_eq (tgt := 29) hX dX12_ofLine_22 (by decide) rfl (fun hc => ?_) (fun hc => ?_)
    · replace h := (if_pos hc).symm.trans h
      exact x_weak [true, true, true, true, false] rfl (tj_X12_ofLine_29 hX hs x1 x2 x3 M r Mr h)
    · replace h := (if_neg hc).symm.trans h
      refine x_iconst hX dX12_ofLine_25 ?_
      refine x_goto (tgt := 30) hX dX12_ofLine_26 (by decide) ?_
      exact x_weak [true, true, true, true, false] rfl (tj_X12_ofLine_30 hX hs x1 x2 x3 0 M r Mr h)
set_option maxRecDepth 100000 in
set_option maxHeartbeats 4000000 in
theorem ts_X12_sumOf_22 {X : Cxt} (hX : Gd X RX12 cX12_sumOf 5 (some .int) 3) (hs : SOK (xG X))  (x1 : Int) (x3 : Int) (M : Mem) (x2 : Int) (x4 : Int) {Q : State → Prop} (o : (Int × Int) ⊕ ((Int) ⊕ (Int × Mem))) (h : s_X12_sumOf_22 x1 x3 M x2 x4 = some o) (hP : ∀ y, o = .inl y → V X 0 0 Q 22 [some (vr (xG X) 139), some (vi x1), some (vi y.1), some (vi x3), some (vi y.2)] [] M) (hE : ∀ z, o = .inr (.inl z) → V X 0 0 Q 65 [some (vr (xG X) 139), some (vi x1), some (vi z), some (vi x3), none] [] M) (hR : ∀ q, o = .inr (.inr q) → Q = Qn X (some (vi q.1)) q.2) : V X 0 0 Q 22 [some (vr (xG X) 139), some (vi x1), some (vi x2), some (vi x3), some (vi x4)] [] M := by
  unfold s_X12_sumOf_22 at h
  refine x_aloadn hX dX12_sumOf_22 rfl ?_
  refine x_iloadn hX dX12_sumOf_23 rfl ?_
  refine x_iconst hX dX12_sumOf_24 ?_
  obtain ⟨r_2, er_2, h⟩ := cl1_of h
  refine x_callVi (t := 11) (As := [vi x3, vi 1]) (rest := []) hX dX12_sumOf_25 (c_X12_ofOrder (gk hX) (gl hX) hs x3 1 M _ er_2) kX12_ofOrder vX12_ofOrder w_1797 (st139 hs) rfl rfl rfl rfl (Nat.le_of_ble_eq_true rfl) z0 ?_
  refine x_iconst hX dX12_sumOf_28 ?_
  refine x_icmp_ne (tgt := 65) hX dX12_sumOf_29 (by decide) rfl cw_2 (fun hc => ?_) (fun hc => ?_)
  · replace h := (if_pos hc).symm.trans h
    refine x_iload hX dX12_sumOf_32 rfl ?_
    refine x_aloadn hX dX12_sumOf_34 rfl ?_
    refine x_iloadn hX dX12_sumOf_35 rfl ?_
    refine x_iconst hX dX12_sumOf_36 ?_
    obtain ⟨r_4, er_4, h⟩ := cl1_of h
    refine x_callVi (t := 11) (As := [vi x3, vi 2]) (rest := [vi x4]) hX dX12_sumOf_37 (c_X12_ofOrder (gk hX) (gl hX) hs x3 2 M _ er_4) kX12_ofOrder vX12_ofOrder w_1797 (st139 hs) rfl rfl rfl rfl (Nat.le_of_ble_eq_true rfl) z0 ?_
    refine x_icmp_ge (tgt := 65) hX dX12_sumOf_40 (by decide) rfl rfl (fun hc => ?_) (fun hc => ?_)
    · replace h := (if_pos hc).symm.trans h
      refine x_iloadn hX dX12_sumOf_43 rfl ?_
      refine x_aloadn hX dX12_sumOf_44 rfl ?_
      refine x_getRj (j := 140) hX dX12_sumOf_45 fl_X12_7 rfl (st139 hs) rfl ?_
      refine x_iloadn hX dX12_sumOf_48 rfl ?_
      refine x_iload hX dX12_sumOf_49 rfl ?_
      obtain ⟨r_6, er_6, h⟩ := cl1_of h
      refine x_callSi (As := [vi x3, vi x4]) (rest := [vr (xG X) 140, vi x2]) hX dX12_sumOf_51 (c_X12_lineAt (gk hX) (gl hX) x3 x4 M _ er_6) kX12_lineAt sX12_lineAt w_1805 rfl rfl rfl (Nat.le_of_ble_eq_true rfl) z0 ?_
      refine x_iloadn hX dX12_sumOf_54 rfl ?_
      refine x_iadd hX dX12_sumOf_55 ?_
      obtain ⟨b_8, h⟩ := gi_of h
      refine x_iald hX dX12_sumOf_56 (st140 hs) b_8 rfl ?_
      refine x_iadd hX dX12_sumOf_57 ?_
      obtain ⟨x2_9, ex2_9, h⟩ := bnd_of h
      refine x_istoren (ls' := [some (vr (xG X) 139), some (vi x1), some (vi x2_9), some (vi x3), some (vi x4)]) hX dX12_sumOf_58 rfl ex2_9 rfl ?_
      obtain ⟨x4_10, ex4_10, h⟩ := bnd_of h
      refine x_iinc (ls' := [some (vr (xG X) 139), some (vi x1), some (vi x2_9), some (vi x3), some (vi x4_10)]) hX dX12_sumOf_59 rfl rfl ex4_10 rfl ?_
      refine x_goto (tgt := 22) hX dX12_sumOf_62 (by decide) ?_
      exact x_weak [true, true, true, true, true] rfl (hP (x2_9, x4_10) (Option.some.inj h).symm)
    · replace h := (if_neg hc).symm.trans h
      exact x_weak [true, true, true, true, false] rfl (hE x2 (Option.some.inj h).symm)
  · replace h := (if_neg hc).symm.trans h
    exact x_weak [true, true, true, true, false] rfl (hE x2 (Option.some.inj h).symm)
set_option maxRecDepth 100000 in
set_option maxHeartbeats 4000000 in
theorem tj_X12_sumOf_65_9 {X : Cxt} (hX : Gd X RX12 cX12_sumOf 5 (some .int) 3) (hs : SOK (xG X))   (x1 : Int) (x2 : Int) (x3 : Int) (M : Mem) {Q : State → Prop} (o : (Int × Int) ⊕ ((Int) ⊕ (Int × Mem))) (h : j_X12_sumOf_65_9 x1 x2 x3 M = some o) (hP : ∀ y, o = .inl y → V X 0 0 Q 9 [some (vr (xG X) 139), some (vi x1), some (vi y.1), some (vi y.2), none] [] M) (hE : ∀ z, o = .inr (.inl z) → V X 0 0 Q 71 [none, none, some (vi z), none, none] [] M) (hR : ∀ q, o = .inr (.inr q) → Q = Qn X (some (vi q.1)) q.2) : V X 0 0 Q 65 [some (vr (xG X) 139), some (vi x1), some (vi x2), some (vi x3), none] [] M := by
  unfold j_X12_sumOf_65_9 at h
  obtain ⟨x3_12, ex3_12, h⟩ := bnd_of h
  refine x_iinc (ls' := [some (vr (xG X) 139), some (vi x1), some (vi x2), some (vi x3_12), none]) hX dX12_sumOf_65 rfl rfl ex3_12 rfl ?_
  refine x_goto (tgt := 9) hX dX12_sumOf_68 (by decide) ?_
  exact x_weak [true, true, true, true, false] rfl (hP (x2, x3_12) (Option.some.inj h).symm)
set_option maxRecDepth 100000 in
set_option maxHeartbeats 4000000 in
theorem ts_X12_sumOf_9 {X : Cxt} (hX : Gd X RX12 cX12_sumOf 5 (some .int) 3) (hs : SOK (xG X))  (x1 : Int) (M : Mem) (x2 : Int) (x3 : Int) {Q : State → Prop} (o : (Int × Int) ⊕ ((Int) ⊕ (Int × Mem))) (h : s_X12_sumOf_9 x1 M x2 x3 = some o) (hP : ∀ y, o = .inl y → V X 0 0 Q 9 [some (vr (xG X) 139), some (vi x1), some (vi y.1), some (vi y.2), none] [] M) (hE : ∀ z, o = .inr (.inl z) → V X 0 0 Q 71 [none, none, some (vi z), none, none] [] M) (hR : ∀ q, o = .inr (.inr q) → Q = Qn X (some (vi q.1)) q.2) : V X 0 0 Q 9 [some (vr (xG X) 139), some (vi x1), some (vi x2), some (vi x3), none] [] M := by
  unfold s_X12_sumOf_9 at h
  refine x_iloadn hX dX12_sumOf_9 rfl ?_
  refine x_aloadn hX dX12_sumOf_10 rfl ?_
  refine x_getRj (j := 140) hX dX12_sumOf_11 fl_X12_7 rfl (st139 hs) rfl ?_
  refine x_iconst hX dX12_sumOf_14 ?_
  refine x_iald hX dX12_sumOf_15 (st140 hs) inc_4_469 ixc_4 ?_
  refine x_icmp_ge (tgt := 71) hX dX12_sumOf_16 (by decide) rfl rfl (fun hc => ?_) (fun hc => ?_)
  · replace h := (if_pos hc).symm.trans h
    refine x_iconst hX dX12_sumOf_19 ?_
    refine x_istore (ls' := [some (vr (xG X) 139), some (vi x1), some (vi x2), some (vi x3), some (vi 0)]) hX dX12_sumOf_20 rfl rfl rfl ?_
    refine x_weak (ls' := [some (vr (xG X) 139), some (vi x1), some (vi x2), some (vi x3), some (vi 0)]) [true, true, true, true, true] rfl ?_
    refine lp_use (x := (x2, 0)) (P := fun x => V X 0 0 Q 22 [some (vr (xG X) 139), some (vi x1), some (vi x.1), some (vi x3), some (vi x.2)] [] M) (PE := fun z_11 => V X 0 0 Q 65 [some (vr (xG X) 139), some (vi x1), some (vi z_11), some (vi x3), none] [] M) (PR := fun q => Q = Qn X (some (vi q.1)) q.2) h (fun x o hh hP hE hR => ts_X12_sumOf_22 hX hs x1 x3 M x.1 x.2 o hh hP hE hR) (fun z_11 h => ?_) (fun q h => ?_)
    · show V X 0 0 Q 65 [some (vr (xG X) 139), some (vi x1), some (vi z_11), some (vi x3), none] [] M
      exact x_weak [true, true, true, true, false] rfl (tj_X12_sumOf_65_9 hX hs x1 z_11 x3 M o h hP hE hR)
    · exact hR q (Option.some.inj h).symm
  · replace h := (if_neg hc).symm.trans h
    exact x_weak [false, false, true, false, false] rfl (hE x2 (Option.some.inj h).symm)
set_option maxRecDepth 100000 in
set_option maxHeartbeats 4000000 in
theorem c_X12_sumOf {l : Launch} {G : Gx} (hG : GOK G) (hl : l.stackTraces = false) (hs : SOK G)  (x1 : Int) (M : Mem) (r : Int) (Mr : Mem) (h : f_X12_sumOf x1 M = some (r, Mr)) : Cn l G mX12_sumOf 3 [vr G 139, vi x1] M (some (vi r)) Mr := by
  refine Cn_of2 (ls := [some (vr G 139), some (vi x1), none, none, none]) hG hl kX12_sumOf rfl (Nat.le_of_ble_eq_true rfl) rfl rfl rfl rfl rfl (fun X eG el hX => ?_)
  subst eG; subst el
  unfold f_X12_sumOf at h
  refine x_aloadn hX dX12_sumOf_0 rfl ?_
  refine x_iconst hX dX12_sumOf_1 ?_
  obtain ⟨M_1, eM_1, h⟩ := bnd_of h
  refine x_putI hX dX12_sumOf_2 fp_X12_70 rfl (st139 hs) (x_meq eM_1 ?_)
  refine x_iconst hX dX12_sumOf_5 ?_
  refine x_istoren (ls' := [some (vr (xG X) 139), some (vi x1), some (vi 0), none, none]) hX dX12_sumOf_6 rfl rfl rfl ?_
  refine x_iconst hX dX12_sumOf_7 ?_
  refine x_istoren (ls' := [some (vr (xG X) 139), some (vi x1), some (vi 0), some (vi 0), none]) hX dX12_sumOf_8 rfl rfl rfl ?_
  refine x_weak (ls' := [some (vr (xG X) 139), some (vi x1), some (vi 0), some (vi 0), none]) [true, true, true, true, false] rfl ?_
  refine lp_use (x := (0, 0)) (P := fun x => V X 0 0 (Qn X (some (vi r)) Mr) 9 [some (vr (xG X) 139), some (vi x1), some (vi x.1), some (vi x.2), none] [] M_1) (PE := fun z_13 => V X 0 0 (Qn X (some (vi r)) Mr) 71 [none, none, some (vi z_13), none, none] [] M_1) (PR := fun q => (Qn X (some (vi r)) Mr) = Qn X (some (vi q.1)) q.2) h (fun x o hh hP hE hR => ts_X12_sumOf_9 hX hs x1 M_1 x.1 x.2 o hh hP hE hR) (fun z_13 h => ?_) (fun q h => ?_)
  · show V X 0 0 (Qn X (some (vi r)) Mr) 71 [none, none, some (vi z_13), none, none] [] M_1
    refine x_iloadn hX dX12_sumOf_71 rfl ?_
    cases h
    exact x_iret hX dX12_sumOf_72 rfl
  · cases h; rfl
set_option maxRecDepth 100000 in
set_option maxHeartbeats 4000000 in
theorem ts_X12_shortOf_4 {X : Cxt} (hX : Gd X RX12 cX12_shortOf 4 (some .int) 3) (hs : SOK (xG X))  (x1 : Int) (M : Mem) (x2 : Int) (x3 : Int) {Q : State → Prop} (o : (Int × Int) ⊕ ((Int) ⊕ (Int))) (h : s_X12_shortOf_4 x1 M x2 x3 = some o) (hP : ∀ y, o = .inl y → V X 0 0 Q 4 [some (vr (xG X) 139), some (vi x1), some (vi y.1), some (vi y.2)] [] M) (hE : ∀ z, o = .inr (.inl z) → V X 0 0 Q 48 [none, none, some (vi z), none] [] M) (hR : ∀ q, o = .inr (.inr q) → Q = Qn X (some (vi q)) M) : V X 0 0 Q 4 [some (vr (xG X) 139), some (vi x1), some (vi x2), some (vi x3)] [] M := by
  unfold s_X12_shortOf_4 at h
  refine x_iloadn hX dX12_shortOf_4 rfl ?_
  refine x_aloadn hX dX12_shortOf_5 rfl ?_
  refine x_iloadn hX dX12_shortOf_6 rfl ?_
  refine x_iconst hX dX12_shortOf_7 ?_
  obtain ⟨r_1, er_1, h⟩ := cl1_of h
  refine x_callVi (t := 11) (As := [vi x1, vi 2]) (rest := [vi x3]) hX dX12_shortOf_8 (c_X12_ofOrder (gk hX) (gl hX) hs x1 2 M _ er_1) kX12_ofOrder vX12_ofOrder w_1797 (st139 hs) rfl rfl rfl rfl (Nat.le_of_ble_eq_true rfl) z0 ?_
  refine x_icmp_ge (tgt := 48) hX dX12_shortOf_11 (by decide) rfl rfl (fun hc => ?_) (fun hc => ?_)
  · replace h := (if_pos hc).symm.trans h
    refine x_iloadn hX dX12_shortOf_14 rfl ?_
    refine x_aloadn hX dX12_shortOf_15 rfl ?_
    refine x_getRj (j := 140) hX dX12_shortOf_16 fl_X12_7 rfl (st139 hs) rfl ?_
    refine x_iloadn hX dX12_shortOf_19 rfl ?_
    refine x_iloadn hX dX12_shortOf_20 rfl ?_
    obtain ⟨r_3, er_3, h⟩ := cl1_of h
    refine x_callSi (As := [vi x1, vi x3]) (rest := [vr (xG X) 140, vi x2]) hX dX12_shortOf_21 (c_X12_lineAt (gk hX) (gl hX) x1 x3 M _ er_3) kX12_lineAt sX12_lineAt w_1805 rfl rfl rfl (Nat.le_of_ble_eq_true rfl) z0 ?_
    refine x_iconst hX dX12_shortOf_24 ?_
    refine x_iadd hX dX12_shortOf_25 ?_
    obtain ⟨b_5, h⟩ := gi_of h
    refine x_iald hX dX12_shortOf_26 (st140 hs) b_5 rfl ?_
    refine x_aloadn hX dX12_shortOf_27 rfl ?_
    refine x_getRj (j := 140) hX dX12_shortOf_28 fl_X12_7 rfl (st139 hs) rfl ?_
    refine x_iloadn hX dX12_shortOf_31 rfl ?_
    refine x_iloadn hX dX12_shortOf_32 rfl ?_
    obtain ⟨r_6, er_6, h⟩ := cl1_of h
    refine x_callSi (As := [vi x1, vi x3]) (rest := [vr (xG X) 140, vi (M 140 (ix (r_3 + 1))), vi x2]) hX dX12_shortOf_33 (c_X12_lineAt (gk hX) (gl hX) x1 x3 M _ er_6) kX12_lineAt sX12_lineAt w_1805 rfl rfl rfl (Nat.le_of_ble_eq_true rfl) z0 ?_
    refine x_iconst hX dX12_shortOf_36 ?_
    refine x_iadd hX dX12_shortOf_37 ?_
    obtain ⟨b_8, h⟩ := gi_of h
    refine x_iald hX dX12_shortOf_38 (st140 hs) b_8 rfl ?_
    refine x_isub hX dX12_shortOf_39 ?_
    refine x_iadd hX dX12_shortOf_40 ?_
    obtain ⟨x2_9, ex2_9, h⟩ := bnd_of h
    refine x_istoren (ls' := [some (vr (xG X) 139), some (vi x1), some (vi x2_9), some (vi x3)]) hX dX12_shortOf_41 rfl ex2_9 rfl ?_
    obtain ⟨x3_10, ex3_10, h⟩ := bnd_of h
    refine x_iinc (ls' := [some (vr (xG X) 139), some (vi x1), some (vi x2_9), some (vi x3_10)]) hX dX12_shortOf_42 rfl rfl ex3_10 rfl ?_
    refine x_goto (tgt := 4) hX dX12_shortOf_45 (by decide) ?_
    exact x_weak [true, true, true, true] rfl (hP (x2_9, x3_10) (Option.some.inj h).symm)
  · replace h := (if_neg hc).symm.trans h
    exact x_weak [false, false, true, false] rfl (hE x2 (Option.some.inj h).symm)
set_option maxRecDepth 100000 in
set_option maxHeartbeats 4000000 in
theorem c_X12_shortOf {l : Launch} {G : Gx} (hG : GOK G) (hl : l.stackTraces = false) (hs : SOK G)  (x1 : Int) (M : Mem) (r : Int) (h : f_X12_shortOf x1 M = some r) : Cn l G mX12_shortOf 3 [vr G 139, vi x1] M (some (vi r)) M := by
  refine Cn_of2 (ls := [some (vr G 139), some (vi x1), none, none]) hG hl kX12_shortOf rfl (Nat.le_of_ble_eq_true rfl) rfl rfl rfl rfl rfl (fun X eG el hX => ?_)
  subst eG; subst el
  unfold f_X12_shortOf at h
  refine x_iconst hX dX12_shortOf_0 ?_
  refine x_istoren (ls' := [some (vr (xG X) 139), some (vi x1), some (vi 0), none]) hX dX12_shortOf_1 rfl rfl rfl ?_
  refine x_iconst hX dX12_shortOf_2 ?_
  refine x_istoren (ls' := [some (vr (xG X) 139), some (vi x1), some (vi 0), some (vi 0)]) hX dX12_shortOf_3 rfl rfl rfl ?_
  refine x_weak (ls' := [some (vr (xG X) 139), some (vi x1), some (vi 0), some (vi 0)]) [true, true, true, true] rfl ?_
  refine lp_use (x := (0, 0)) (P := fun x => V X 0 0 (Qn X (some (vi r)) M) 4 [some (vr (xG X) 139), some (vi x1), some (vi x.1), some (vi x.2)] [] M) (PE := fun z_11 => V X 0 0 (Qn X (some (vi r)) M) 48 [none, none, some (vi z_11), none] [] M) (PR := fun q => (Qn X (some (vi r)) M) = Qn X (some (vi q)) M) h (fun x o hh hP hE hR => ts_X12_shortOf_4 hX hs x1 M x.1 x.2 o hh hP hE hR) (fun z_11 h => ?_) (fun q h => ?_)
  · show V X 0 0 (Qn X (some (vi r)) M) 48 [none, none, some (vi z_11), none] [] M
    refine x_iloadn hX dX12_shortOf_48 rfl ?_
    cases h
    exact x_iret hX dX12_shortOf_49 rfl
  · cases h; rfl
set_option maxRecDepth 100000 in
set_option maxHeartbeats 4000000 in
theorem tj_X12_next_18_0 {X : Cxt} (hX : Gd X RX12 cX12_next 1 (none) 3) (hs : SOK (xG X))   (M : Mem) {Q : State → Prop} (o : (Mem) ⊕ ((Mem) ⊕ (Mem))) (h : j_X12_next_18_0 M = some o) (hP : ∀ y, o = .inl y → V X 0 0 Q 0 [some (vr (xG X) 139)] [] y) (hE : ∀ z, o = .inr (.inl z) → V X 0 0 Q 31 [some (vr (xG X) 139)] [] z) (hR : ∀ q, o = .inr (.inr q) → Q = Qn X none q) : V X 0 0 Q 18 [some (vr (xG X) 139)] [] M := by
  unfold j_X12_next_18_0 at h
  refine x_aloadn hX dX12_next_18 rfl ?_
  refine x_dup hX dX12_next_19 rfl ?_
  refine x_getI hX dX12_next_20 fl_X12_356 rfl (st139 hs) ?_
  refine x_iconst hX dX12_next_23 ?_
  refine x_iadd hX dX12_next_24 ?_
  obtain ⟨M_3, eM_3, h⟩ := bnd_of h
  refine x_putI hX dX12_next_25 fp_X12_356 rfl (st139 hs) (x_meq eM_3 ?_)
  refine x_goto (tgt := 0) hX dX12_next_28 (by decide) ?_
  exact x_weak [true] rfl (hP M_3 (Option.some.inj h).symm)
set_option maxRecDepth 100000 in
set_option maxHeartbeats 4000000 in
theorem ts_X12_next_0 {X : Cxt} (hX : Gd X RX12 cX12_next 1 (none) 3) (hs : SOK (xG X))  (M : Mem) {Q : State → Prop} (o : (Mem) ⊕ ((Mem) ⊕ (Mem))) (h : s_X12_next_0 M = some o) (hP : ∀ y, o = .inl y → V X 0 0 Q 0 [some (vr (xG X) 139)] [] y) (hE : ∀ z, o = .inr (.inl z) → V X 0 0 Q 31 [some (vr (xG X) 139)] [] z) (hR : ∀ q, o = .inr (.inr q) → Q = Qn X none q) : V X 0 0 Q 0 [some (vr (xG X) 139)] [] M := by
  unfold s_X12_next_0 at h
  refine x_aloadn hX dX12_next_0 rfl ?_
  obtain ⟨r_1, er_1, h⟩ := cl1_of h
  refine x_callVi (t := 11) (As := []) (rest := []) hX dX12_next_1 (c_X12_see (gk hX) (gl hX) hs M _ er_1) kX12_see vX12_see w_2276 (st139 hs) rfl rfl rfl rfl (Nat.le_of_ble_eq_true rfl) z0 ?_
  refine x_bipush hX dX12_next_4 bp_32 ?_
  refine x_icmp_eq (tgt := 18) hX dX12_next_6 (by decide) rfl cw_32 (fun hc => ?_) (fun hc => ?_)
  · replace h := (if_pos hc).symm.trans h
    exact x_weak [true] rfl (tj_X12_next_18_0 hX hs M o h hP hE hR)
  · replace h := (if_neg hc).symm.trans h
    refine x_aloadn hX dX12_next_9 rfl ?_
    obtain ⟨r_4, er_4, h⟩ := cl1_of h
    refine x_callVi (t := 11) (As := []) (rest := []) hX dX12_next_10 (c_X12_see (gk hX) (gl hX) hs M _ er_4) kX12_see vX12_see w_2276 (st139 hs) rfl rfl rfl rfl (Nat.le_of_ble_eq_true rfl) z0 ?_
    refine x_bipush hX dX12_next_13 bp_10 ?_
    refine x_icmp_ne (tgt := 31) hX dX12_next_15 (by decide) rfl cw_10 (fun hc => ?_) (fun hc => ?_)
    · replace h := (if_pos hc).symm.trans h
      exact x_weak [true] rfl (tj_X12_next_18_0 hX hs M o h hP hE hR)
    · replace h := (if_neg hc).symm.trans h
      exact x_weak [true] rfl (hE M (Option.some.inj h).symm)
set_option maxRecDepth 100000 in
set_option maxHeartbeats 4000000 in
theorem ts_X12_next_126 {X : Cxt} (hX : Gd X RX12 cX12_next 1 (none) 3) (hs : SOK (xG X))  (M : Mem) {Q : State → Prop} (o : (Mem) ⊕ ((Mem) ⊕ (Mem))) (h : s_X12_next_126 M = some o) (hP : ∀ y, o = .inl y → V X 0 0 Q 126 [some (vr (xG X) 139)] [] y) (hE : ∀ z, o = .inr (.inl z) → V X 0 0 Q 154 [some (vr (xG X) 139)] [] z) (hR : ∀ q, o = .inr (.inr q) → Q = Qn X none q) : V X 0 0 Q 126 [some (vr (xG X) 139)] [] M := by
  unfold s_X12_next_126 at h
  refine x_aloadn hX dX12_next_126 rfl ?_
  refine x_getI hX dX12_next_127 fl_X12_371 rfl (st139 hs) ?_
  refine x_iconst hX dX12_next_130 ?_
  refine x_icmp_ne (tgt := 154) hX dX12_next_131 (by decide) rfl cw_1 (fun hc => ?_) (fun hc => ?_)
  · replace h := (if_pos hc).symm.trans h
    refine x_aloadn hX dX12_next_134 rfl ?_
    obtain ⟨r_13, er_13, h⟩ := cl1_of h
    refine x_callVi (t := 11) (As := []) (rest := []) hX dX12_next_135 (c_X12_isSmall (gk hX) (gl hX) hs M _ er_13) kX12_isSmall vX12_isSmall w_2280 (st139 hs) rfl rfl rfl rfl (Nat.le_of_ble_eq_true rfl) z0 ?_
    refine x_if_eq (tgt := 154) hX dX12_next_138 (by decide) rfl (fun hc => ?_) (fun hc => ?_)
    · replace h := (if_pos hc).symm.trans h
      exact x_weak [true] rfl (hE M (Option.some.inj h).symm)
    · replace h := (if_neg hc).symm.trans h
      refine x_aloadn hX dX12_next_141 rfl ?_
      refine x_dup hX dX12_next_142 rfl ?_
      refine x_getI hX dX12_next_143 fl_X12_356 rfl (st139 hs) ?_
      refine x_iconst hX dX12_next_146 ?_
      refine x_iadd hX dX12_next_147 ?_
      obtain ⟨M_15, eM_15, h⟩ := bnd_of h
      refine x_putI hX dX12_next_148 fp_X12_356 rfl (st139 hs) (x_meq eM_15 ?_)
      refine x_goto (tgt := 126) hX dX12_next_151 (by decide) ?_
      exact x_weak [true] rfl (hP M_15 (Option.some.inj h).symm)
  · replace h := (if_neg hc).symm.trans h
    exact x_weak [true] rfl (hE M (Option.some.inj h).symm)
set_option maxRecDepth 100000 in
set_option maxHeartbeats 4000000 in
theorem tj_X12_next_202_154 {X : Cxt} (hX : Gd X RX12 cX12_next 1 (none) 3) (hs : SOK (xG X))   (y1 : Int) (M : Mem) {Q : State → Prop} (o : (Mem) ⊕ ((Mem) ⊕ (Mem))) (h : j_X12_next_202_154 y1 M = some o) (hP : ∀ y, o = .inl y → V X 0 0 Q 154 [some (vr (xG X) 139)] [] y) (hE : ∀ z, o = .inr (.inl z) → V X 0 0 Q 218 [none] [] z) (hR : ∀ q, o = .inr (.inr q) → Q = Qn X none q) : V X 0 0 Q 202 [some (vr (xG X) 139)] [vi y1, vr (xG X) 139] M := by
  unfold j_X12_next_202_154 at h
  obtain ⟨M_19, eM_19, h⟩ := bnd_of h
  refine x_putI hX dX12_next_202 fp_X12_374 rfl (st139 hs) (x_meq eM_19 ?_)
  refine x_aloadn hX dX12_next_205 rfl ?_
  refine x_dup hX dX12_next_206 rfl ?_
  refine x_getI hX dX12_next_207 fl_X12_356 rfl (st139 hs) ?_
  refine x_iconst hX dX12_next_210 ?_
  refine x_iadd hX dX12_next_211 ?_
  obtain ⟨M_20, eM_20, h⟩ := bnd_of h
  refine x_putI hX dX12_next_212 fp_X12_356 rfl (st139 hs) (x_meq eM_20 ?_)
  refine x_goto (tgt := 154) hX dX12_next_215 (by decide) ?_
  exact x_weak [true] rfl (hP M_20 (Option.some.inj h).symm)
set_option maxRecDepth 100000 in
set_option maxHeartbeats 4000000 in
theorem ts_X12_next_154 {X : Cxt} (hX : Gd X RX12 cX12_next 1 (none) 3) (hs : SOK (xG X))  (M : Mem) {Q : State → Prop} (o : (Mem) ⊕ ((Mem) ⊕ (Mem))) (h : s_X12_next_154 M = some o) (hP : ∀ y, o = .inl y → V X 0 0 Q 154 [some (vr (xG X) 139)] [] y) (hE : ∀ z, o = .inr (.inl z) → V X 0 0 Q 218 [none] [] z) (hR : ∀ q, o = .inr (.inr q) → Q = Qn X none q) : V X 0 0 Q 154 [some (vr (xG X) 139)] [] M := by
  unfold s_X12_next_154 at h
  refine x_aloadn hX dX12_next_154 rfl ?_
  refine x_getI hX dX12_next_155 fl_X12_371 rfl (st139 hs) ?_
  refine x_iconst hX dX12_next_158 ?_
  refine x_icmp_ne (tgt := 218) hX dX12_next_159 (by decide) rfl cw_2 (fun hc => ?_) (fun hc => ?_)
  · replace h := (if_pos hc).symm.trans h
    refine x_aloadn hX dX12_next_162 rfl ?_
    obtain ⟨r_17, er_17, h⟩ := cl1_of h
    refine x_callVi (t := 11) (As := []) (rest := []) hX dX12_next_163 (c_X12_isDigit (gk hX) (gl hX) hs M _ er_17) kX12_isDigit vX12_isDigit w_2284 (st139 hs) rfl rfl rfl rfl (Nat.le_of_ble_eq_true rfl) z0 ?_
    refine x_if_eq (tgt := 218) hX dX12_next_166 (by decide) rfl (fun hc => ?_) (fun hc => ?_)
    · replace h := (if_pos hc).symm.trans h
      exact x_weak [false] rfl (hE M (Option.some.inj h).symm)
    · replace h := (if_neg hc).symm.trans h
      refine x_aloadn hX dX12_next_169 rfl ?_
      refine x_aloadn hX dX12_next_170 rfl ?_
      refine x_getI hX dX12_next_171 fl_X12_374 rfl (st139 hs) ?_
      refine x_ldcw hX dX12_next_174 w_2288 ?_
      refine x_icmp_le (tgt := 187) hX dX12_next_177 (by decide) rfl cw_100000 (fun hc => ?_) (fun hc => ?_)
      · replace h := (if_pos hc).symm.trans h
        refine x_aloadn hX dX12_next_180 rfl ?_
        refine x_getI hX dX12_next_181 fl_X12_374 rfl (st139 hs) ?_
        refine x_goto (tgt := 202) hX dX12_next_184 (by decide) ?_
        exact x_weak [true] rfl (tj_X12_next_202_154 hX hs (M 139 27) M o h hP hE hR)
      · replace h := (if_neg hc).symm.trans h
        refine x_bipush hX dX12_next_187 bp_10 ?_
        refine x_aloadn hX dX12_next_189 rfl ?_
        refine x_getI hX dX12_next_190 fl_X12_374 rfl (st139 hs) ?_
        refine x_imul hX dX12_next_193 ?_
        refine x_aloadn hX dX12_next_194 rfl ?_
        obtain ⟨r_21, er_21, h⟩ := cl1_of h
        refine x_callVi (t := 11) (As := []) (rest := [vi (10 * (M 139 27)), vr (xG X) 139]) hX dX12_next_195 (c_X12_see (gk hX) (gl hX) hs M _ er_21) kX12_see vX12_see w_2276 (st139 hs) rfl rfl rfl rfl (Nat.le_of_ble_eq_true rfl) z0 ?_
        refine x_iadd hX dX12_next_198 ?_
        refine x_bipush hX dX12_next_199 bp_48 ?_
        refine x_isub hX dX12_next_201 ?_
        exact x_weak [true] rfl (tj_X12_next_202_154 hX hs (((10 * (M 139 27)) + r_21) - 48) M o h hP hE hR)
  · replace h := (if_neg hc).symm.trans h
    exact x_weak [false] rfl (hE M (Option.some.inj h).symm)
set_option maxRecDepth 100000 in
set_option maxHeartbeats 4000000 in
theorem tj_X12_next_122 {X : Cxt} (hX : Gd X RX12 cX12_next 1 (none) 3) (hs : SOK (xG X))   (y1 : Int) (y2 : Int) (M : Mem) (Mr : Mem) (h : j_X12_next_122 y1 y2 M = some Mr) : V X 0 0 (Qn X none Mr) 122 [some (vr (xG X) 139)] [vi y2, vi y1, vr (xG X) 139] M := by
  unfold j_X12_next_122 at h
  refine x_iadd hX dX12_next_122 ?_
  obtain ⟨M_12, eM_12, h⟩ := bnd_of h
  refine x_putI hX dX12_next_123 fp_X12_356 rfl (st139 hs) (x_meq eM_12 ?_)
  refine x_weak (ls' := [some (vr (xG X) 139)]) [true] rfl ?_
  refine lp_use (x := M_12) (P := fun x => V X 0 0 (Qn X none Mr) 126 [some (vr (xG X) 139)] [] x) (PE := fun z_16 => V X 0 0 (Qn X none Mr) 154 [some (vr (xG X) 139)] [] z_16) (PR := fun q => (Qn X none Mr) = Qn X none q) h (fun x o hh hP hE hR => ts_X12_next_126 hX hs x o hh hP hE hR) (fun z_16 h => ?_) (fun q h => ?_)
  · show V X 0 0 (Qn X none Mr) 154 [some (vr (xG X) 139)] [] z_16
    refine x_weak (ls' := [some (vr (xG X) 139)]) [true] rfl ?_
    refine lp_use (x := z_16) (P := fun x => V X 0 0 (Qn X none Mr) 154 [some (vr (xG X) 139)] [] x) (PE := fun z_23 => V X 0 0 (Qn X none Mr) 218 [none] [] z_23) (PR := fun q => (Qn X none Mr) = Qn X none q) h (fun x o hh hP hE hR => ts_X12_next_154 hX hs x o hh hP hE hR) (fun z_23 h => ?_) (fun q h => ?_)
    · show V X 0 0 (Qn X none Mr) 218 [none] [] z_23
      cases h
      exact x_vret hX dX12_next_218 rfl
    · cases h; rfl
  · cases h; rfl
set_option maxRecDepth 100000 in
set_option maxHeartbeats 4000000 in
theorem tj_X12_next_117 {X : Cxt} (hX : Gd X RX12 cX12_next 1 (none) 3) (hs : SOK (xG X))   (y1 : Int) (M : Mem) (Mr : Mem) (h : j_X12_next_117 y1 M = some Mr) : V X 0 0 (Qn X none Mr) 117 [some (vr (xG X) 139)] [vi y1, vr (xG X) 139] M := by
  unfold j_X12_next_117 at h
  refine x_iconst hX dX12_next_117 ?_
  refine x_goto (tgt := 122) hX dX12_next_118 (by decide) ?_
  exact x_weak [true] rfl (tj_X12_next_122 hX hs y1 1 M Mr h)
set_option maxRecDepth 100000 in
set_option maxHeartbeats 4000000 in
theorem tj_X12_next_88 {X : Cxt} (hX : Gd X RX12 cX12_next 1 (none) 3) (hs : SOK (xG X))   (y1 : Int) (M : Mem) (Mr : Mem) (h : j_X12_next_88 y1 M = some Mr) : V X 0 0 (Qn X none Mr) 88 [some (vr (xG X) 139)] [vi y1, vr (xG X) 139] M := by
  unfold j_X12_next_88 at h
  obtain ⟨M_10, eM_10, h⟩ := bnd_of h
  refine x_putI hX dX12_next_88 fp_X12_371 rfl (st139 hs) (x_meq eM_10 ?_)
  refine x_aloadn hX dX12_next_91 rfl ?_
  refine x_iconst hX dX12_next_92 ?_
  obtain ⟨M_11, eM_11, h⟩ := bnd_of h
  refine x_putI hX dX12_next_93 fp_X12_374 rfl (st139 hs) (x_meq eM_11 ?_)
  refine x_aloadn hX dX12_next_96 rfl ?_
  refine x_dup hX dX12_next_97 rfl ?_
  refine x_getI hX dX12_next_98 fl_X12_356 rfl (st139 hs) ?_
  refine x_aloadn hX dX12_next_101 rfl ?_
  refine x_getI hX dX12_next_102 fl_X12_371 rfl (st139 hs) ?_
  refine x_iconst hX dX12_next_105 ?_
  refine x_icmp_eq (tgt := 117) hX dX12_next_106 (by decide) rfl cw_3 (fun hc => ?_) (fun hc => ?_)
  · replace h := (if_pos hc).symm.trans h
    exact x_weak [true] rfl (tj_X12_next_117 hX hs (M_11 139 24) M_11 Mr h)
  · replace h := (if_neg hc).symm.trans h
    refine x_aloadn hX dX12_next_109 rfl ?_
    refine x_getI hX dX12_next_110 fl_X12_371 rfl (st139 hs) ?_
    refine x_iconst hX dX12_next_113 ?_
    refine x_icmp_ne (tgt := 121) hX dX12_next_114 (by decide) rfl cw_4 (fun hc => ?_) (fun hc => ?_)
    · replace h := (if_pos hc).symm.trans h
      exact x_weak [true] rfl (tj_X12_next_117 hX hs (M_11 139 24) M_11 Mr h)
    · replace h := (if_neg hc).symm.trans h
      refine x_iconst hX dX12_next_121 ?_
      exact x_weak [true] rfl (tj_X12_next_122 hX hs (M_11 139 24) 0 M_11 Mr h)
set_option maxRecDepth 100000 in
set_option maxHeartbeats 4000000 in
theorem c_X12_next {l : Launch} {G : Gx} (hG : GOK G) (hl : l.stackTraces = false) (hs : SOK G)  (M : Mem) (Mr : Mem) (h : f_X12_next M = some Mr) : Cn l G mX12_next 3 [vr G 139] M none Mr := by
  refine Cn_of2 (ls := [some (vr G 139)]) hG hl kX12_next rfl (Nat.le_of_ble_eq_true rfl) rfl rfl rfl rfl rfl (fun X eG el hX => ?_)
  subst eG; subst el
  unfold f_X12_next at h
  refine x_weak (ls' := [some (vr (xG X) 139)]) [true] rfl ?_
  refine lp_use (x := M) (P := fun x => V X 0 0 (Qn X none Mr) 0 [some (vr (xG X) 139)] [] x) (PE := fun z_6 => V X 0 0 (Qn X none Mr) 31 [some (vr (xG X) 139)] [] z_6) (PR := fun q => (Qn X none Mr) = Qn X none q) h (fun x o hh hP hE hR => ts_X12_next_0 hX hs x o hh hP hE hR) (fun z_6 h => ?_) (fun q h => ?_)
  · show V X 0 0 (Qn X none Mr) 31 [some (vr (xG X) 139)] [] z_6
    refine x_aloadn hX dX12_next_31 rfl ?_
    refine x_aloadn hX dX12_next_32 rfl ?_
    refine x_getI hX dX12_next_33 fl_X12_356 rfl (st139 hs) ?_
    obtain ⟨M_7, eM_7, h⟩ := bnd_of h
    refine x_putI hX dX12_next_36 fp_X12_362 rfl (st139 hs) (x_meq eM_7 ?_)
    refine x_aloadn hX dX12_next_39 rfl ?_
    refine x_aloadn hX dX12_next_40 rfl ?_
    obtain ⟨r_8, er_8, h⟩ := cl1_of h
    refine x_callVi (t := 11) (As := []) (rest := [vr (xG X) 139]) hX dX12_next_41 (c_X12_see (gk hX) (gl hX) hs M_7 _ er_8) kX12_see vX12_see w_2276 (st139 hs) rfl rfl rfl rfl (Nat.le_of_ble_eq_true rfl) z0 ?_
    refine x_iconst hX dX12_next_44 ?_
    refine x_icmp_ne (tgt := 52) hX dX12_next_45 (by decide) rfl cw_m1 (fun hc => ?_) (fun hc => ?_)
    · replace h := (if_pos hc).symm.trans h
      refine x_iconst hX dX12_next_48 ?_
      refine x_goto (tgt := 88) hX dX12_next_49 (by decide) ?_
      exact x_weak [true] rfl (tj_X12_next_88 hX hs 0 M_7 Mr h)
    · replace h := (if_neg hc).symm.trans h
      refine x_aloadn hX dX12_next_52 rfl ?_
      obtain ⟨r_24, er_24, h⟩ := cl1_of h
      refine x_callVi (t := 11) (As := []) (rest := [vr (xG X) 139]) hX dX12_next_53 (c_X12_isSmall (gk hX) (gl hX) hs M_7 _ er_24) kX12_isSmall vX12_isSmall w_2280 (st139 hs) rfl rfl rfl rfl (Nat.le_of_ble_eq_true rfl) z0 ?_
      refine x_if_eq (tgt := 63) hX dX12_next_56 (by decide) rfl (fun hc => ?_) (fun hc => ?_)
      · replace h := (if_pos hc).symm.trans h
        refine x_aloadn hX dX12_next_63 rfl ?_
        obtain ⟨r_26, er_26, h⟩ := cl1_of h
        refine x_callVi (t := 11) (As := []) (rest := [vr (xG X) 139]) hX dX12_next_64 (c_X12_isDigit (gk hX) (gl hX) hs M_7 _ er_26) kX12_isDigit vX12_isDigit w_2284 (st139 hs) rfl rfl rfl rfl (Nat.le_of_ble_eq_true rfl) z0 ?_
        refine x_if_eq (tgt := 74) hX dX12_next_67 (by decide) rfl (fun hc => ?_) (fun hc => ?_)
        · replace h := (if_pos hc).symm.trans h
          refine x_aloadn hX dX12_next_74 rfl ?_
          obtain ⟨r_28, er_28, h⟩ := cl1_of h
          refine x_callVi (t := 11) (As := []) (rest := [vr (xG X) 139]) hX dX12_next_75 (c_X12_see (gk hX) (gl hX) hs M_7 _ er_28) kX12_see vX12_see w_2276 (st139 hs) rfl rfl rfl rfl (Nat.le_of_ble_eq_true rfl) z0 ?_
          refine x_bipush hX dX12_next_78 bp_59 ?_
          refine x_icmp_ne (tgt := 87) hX dX12_next_80 (by decide) rfl cw_59 (fun hc => ?_) (fun hc => ?_)
          · replace h := (if_pos hc).symm.trans h
            refine x_iconst hX dX12_next_83 ?_
            refine x_goto (tgt := 88) hX dX12_next_84 (by decide) ?_
            exact x_weak [true] rfl (tj_X12_next_88 hX hs 3 M_7 Mr h)
          · replace h := (if_neg hc).symm.trans h
            refine x_iconst hX dX12_next_87 ?_
            exact x_weak [true] rfl (tj_X12_next_88 hX hs 4 M_7 Mr h)
        · replace h := (if_neg hc).symm.trans h
          refine x_iconst hX dX12_next_70 ?_
          refine x_goto (tgt := 88) hX dX12_next_71 (by decide) ?_
          exact x_weak [true] rfl (tj_X12_next_88 hX hs 2 M_7 Mr h)
      · replace h := (if_neg hc).symm.trans h
        refine x_iconst hX dX12_next_59 ?_
        refine x_goto (tgt := 88) hX dX12_next_60 (by decide) ?_
        exact x_weak [true] rfl (tj_X12_next_88 hX hs 1 M_7 Mr h)
  · cases h; rfl
set_option maxRecDepth 100000 in
set_option maxHeartbeats 4000000 in
theorem tj_X12_addLine_81 {X : Cxt} (hX : Gd X RX12 cX12_addLine 5 (some .int) 4) (hs : SOK (xG X))   (x1 : Int) (x2 : Int) (x3 : Int) (y1 : Int) (M : Mem) (r : Int) (Mr : Mem) (h : j_X12_addLine_81 x1 x2 x3 y1 M = some (r, Mr)) : V X 0 0 (Qn X (some (vi r)) Mr) 81 [some (vr (xG X) 139), some (vi x1), some (vi x2), some (vi x3), none] [vi y1, vr (xG X) 139] M := by
  unfold j_X12_addLine_81 at h
  obtain ⟨M_3, eM_3, h⟩ := bnd_of h
  refine x_putI hX dX12_addLine_81 fp_X12_70 rfl (st139 hs) (x_meq eM_3 ?_)
  refine x_aloadn hX dX12_addLine_84 rfl ?_
  refine x_getI hX dX12_addLine_85 fl_X12_70 rfl (st139 hs) ?_
  refine x_if_le (tgt := 95) hX dX12_addLine_88 (by decide) rfl (fun hc => ?_) (fun hc => ?_)
  · replace h := (if_pos hc).symm.trans h
    refine x_iconst hX dX12_addLine_91 ?_
    refine x_goto (tgt := 102) hX dX12_addLine_92 (by decide) ?_
    cases h
    exact x_iret hX dX12_addLine_102 rfl
  · replace h := (if_neg hc).symm.trans h
    refine x_aloadn hX dX12_addLine_95 rfl ?_
    refine x_iloadn hX dX12_addLine_96 rfl ?_
    refine x_iloadn hX dX12_addLine_97 rfl ?_
    refine x_iloadn hX dX12_addLine_98 rfl ?_
    obtain ⟨r_4, M_5, er_4, h⟩ := cl2_of h
    refine x_callVi (t := 11) (As := [vi x1, vi x2, vi x3]) (rest := []) hX dX12_addLine_99 (c_X12_addsLine (gk hX) (gl hX) hs x1 x2 x3 M_3 _ _ er_4) kX12_addsLine vX12_addsLine w_1808 (st139 hs) rfl rfl rfl rfl (Nat.le_of_ble_eq_true rfl) z0 ?_
    cases h
    exact x_iret hX dX12_addLine_102 rfl
set_option maxRecDepth 100000 in
set_option maxHeartbeats 4000000 in
theorem tj_X12_addLine_76 {X : Cxt} (hX : Gd X RX12 cX12_addLine 5 (some .int) 4) (hs : SOK (xG X))   (x1 : Int) (x2 : Int) (x3 : Int) (M : Mem) (r : Int) (Mr : Mem) (h : j_X12_addLine_76 x1 x2 x3 M = some (r, Mr)) : V X 0 0 (Qn X (some (vi r)) Mr) 76 [some (vr (xG X) 139), some (vi x1), some (vi x2), some (vi x3), none] [vr (xG X) 139] M := by
  unfold j_X12_addLine_76 at h
  refine x_iconst hX dX12_addLine_76 ?_
  refine x_goto (tgt := 81) hX dX12_addLine_77 (by decide) ?_
  exact x_weak [true, true, true, true, false] rfl (tj_X12_addLine_81 hX hs x1 x2 x3 3 M r Mr h)
set_option maxRecDepth 100000 in
set_option maxHeartbeats 4000000 in
theorem tj_X12_addLine_21 {X : Cxt} (hX : Gd X RX12 cX12_addLine 5 (some .int) 4) (hs : SOK (xG X))   (x1 : Int) (x2 : Int) (x3 : Int) (y0 : Int) (M : Mem) (r : Int) (Mr : Mem) (h : j_X12_addLine_21 x1 x2 x3 y0 M = some (r, Mr)) : V X 0 0 (Qn X (some (vi r)) Mr) 21 [some (vr (xG X) 139), some (vi x1), some (vi x2), some (vi x3), none] [vi y0] M := by
  unfold j_X12_addLine_21 at h
  refine x_istore (ls' := [some (vr (xG X) 139), some (vi x1), some (vi x2), some (vi x3), some (vi y0)]) hX dX12_addLine_21 rfl rfl rfl ?_
  refine x_aloadn hX dX12_addLine_23 rfl ?_
  refine x_iload hX dX12_addLine_24 rfl ?_
  refine x_if_ne (tgt := 33) hX dX12_addLine_26 (by decide) rfl (fun hc => ?_) (fun hc => ?_)
  · replace h := (if_pos hc).symm.trans h
    refine x_iconst hX dX12_addLine_29 ?_
    refine x_goto (tgt := 81) hX dX12_addLine_30 (by decide) ?_
    exact x_weak [true, true, true, true, false] rfl (tj_X12_addLine_81 hX hs x1 x2 x3 1 M r Mr h)
  · replace h := (if_neg hc).symm.trans h
    refine x_iloadn hX dX12_addLine_33 rfl ?_
    refine x_iconst hX dX12_addLine_34 ?_
    refine x_bipush hX dX12_addLine_35 bp_99 ?_
    obtain ⟨r_6, er_6, h⟩ := cl1_of h
    refine x_callSi (As := [vi x3, vi 1, vi 99]) (rest := [vr (xG X) 139]) hX dX12_addLine_37 (c_X12_in (gk hX) (gl hX) x3 1 99 M _ er_6) kX12_in sX12_in w_1735 rfl rfl rfl (Nat.le_of_ble_eq_true rfl) z0 ?_
    refine x_if_ne (tgt := 47) hX dX12_addLine_40 (by decide) rfl (fun hc => ?_) (fun hc => ?_)
    · replace h := (if_pos hc).symm.trans h
      refine x_iconst hX dX12_addLine_43 ?_
      refine x_goto (tgt := 81) hX dX12_addLine_44 (by decide) ?_
      exact x_weak [true, true, true, true, false] rfl (tj_X12_addLine_81 hX hs x1 x2 x3 2 M r Mr h)
    · replace h := (if_neg hc).symm.trans h
      refine x_aloadn hX dX12_addLine_47 rfl ?_
      refine x_iloadn hX dX12_addLine_48 rfl ?_
      refine x_iconst hX dX12_addLine_49 ?_
      obtain ⟨r_8, er_8, h⟩ := cl1_of h
      refine x_callVi (t := 11) (As := [vi x1, vi 1]) (rest := [vr (xG X) 139]) hX dX12_addLine_50 (c_X12_ofOrder (gk hX) (gl hX) hs x1 1 M _ er_8) kX12_ofOrder vX12_ofOrder w_1797 (st139 hs) rfl rfl rfl rfl (Nat.le_of_ble_eq_true rfl) z0 ?_
      refine x_if_ne (tgt := 76) hX dX12_addLine_53 (by decide) rfl (fun hc => ?_) (fun hc => ?_)
      · replace h := (if_pos hc).symm.trans h
        refine x_aloadn hX dX12_addLine_56 rfl ?_
        refine x_iloadn hX dX12_addLine_57 rfl ?_
        refine x_iconst hX dX12_addLine_58 ?_
        obtain ⟨r_10, er_10, h⟩ := cl1_of h
        refine x_callVi (t := 11) (As := [vi x1, vi 2]) (rest := [vr (xG X) 139]) hX dX12_addLine_59 (c_X12_ofOrder (gk hX) (gl hX) hs x1 2 M _ er_10) kX12_ofOrder vX12_ofOrder w_1797 (st139 hs) rfl rfl rfl rfl (Nat.le_of_ble_eq_true rfl) z0 ?_
        refine x_bipush hX dX12_addLine_62 bp_6 ?_
        refine x_icmp_eq (tgt := 76) hX dX12_addLine_64 (by decide) rfl cw_6 (fun hc => ?_) (fun hc => ?_)
        · replace h := (if_pos hc).symm.trans h
          exact x_weak [true, true, true, true, false] rfl (tj_X12_addLine_76 hX hs x1 x2 x3 M r Mr h)
        · replace h := (if_neg hc).symm.trans h
          refine x_aloadn hX dX12_addLine_67 rfl ?_
          refine x_iloadn hX dX12_addLine_68 rfl ?_
          refine x_iloadn hX dX12_addLine_69 rfl ?_
          obtain ⟨r_12, er_12, h⟩ := cl1_of h
          refine x_callVi (t := 11) (As := [vi x1, vi x2]) (rest := [vr (xG X) 139]) hX dX12_addLine_70 (c_X12_hasLine (gk hX) (gl hX) hs x1 x2 M _ er_12) kX12_hasLine vX12_hasLine w_1801 (st139 hs) rfl rfl rfl rfl (Nat.le_of_ble_eq_true rfl) z0 ?_
          refine x_if_eq (tgt := 80) hX dX12_addLine_73 (by decide) rfl (fun hc => ?_) (fun hc => ?_)
          · replace h := (if_pos hc).symm.trans h
            refine x_iconst hX dX12_addLine_80 ?_
            exact x_weak [true, true, true, true, false] rfl (tj_X12_addLine_81 hX hs x1 x2 x3 0 M r Mr h)
          · replace h := (if_neg hc).symm.trans h
            exact x_weak [true, true, true, true, false] rfl (tj_X12_addLine_76 hX hs x1 x2 x3 M r Mr h)
      · replace h := (if_neg hc).symm.trans h
        exact x_weak [true, true, true, true, false] rfl (tj_X12_addLine_76 hX hs x1 x2 x3 M r Mr h)
set_option maxRecDepth 100000 in
set_option maxHeartbeats 4000000 in
theorem tj_X12_addLine_20 {X : Cxt} (hX : Gd X RX12 cX12_addLine 5 (some .int) 4) (hs : SOK (xG X))   (x1 : Int) (x2 : Int) (x3 : Int) (M : Mem) (r : Int) (Mr : Mem) (h : j_X12_addLine_20 x1 x2 x3 M = some (r, Mr)) : V X 0 0 (Qn X (some (vi r)) Mr) 20 [some (vr (xG X) 139), some (vi x1), some (vi x2), some (vi x3), none] [] M := by
  unfold j_X12_addLine_20 at h
  refine x_iconst hX dX12_addLine_20 ?_
  exact x_weak [true, true, true, true, false] rfl (tj_X12_addLine_21 hX hs x1 x2 x3 0 M r Mr h)
set_option maxRecDepth 100000 in
set_option maxHeartbeats 4000000 in
theorem c_X12_addLine {l : Launch} {G : Gx} (hG : GOK G) (hl : l.stackTraces = false) (hs : SOK G)  (x1 : Int) (x2 : Int) (x3 : Int) (M : Mem) (r : Int) (Mr : Mem) (h : f_X12_addLine x1 x2 x3 M = some (r, Mr)) : Cn l G mX12_addLine 4 [vr G 139, vi x1, vi x2, vi x3] M (some (vi r)) Mr := by
  refine Cn_of2 (ls := [some (vr G 139), some (vi x1), some (vi x2), some (vi x3), none]) hG hl kX12_addLine rfl (Nat.le_of_ble_eq_true rfl) rfl rfl rfl rfl rfl (fun X eG el hX => ?_)
  subst eG; subst el
  unfold f_X12_addLine at h
  refine x_aloadn hX dX12_addLine_0 rfl ?_
  refine x_iloadn hX dX12_addLine_1 rfl ?_
  obtain ⟨r_1, er_1, h⟩ := cl1_of h
  refine x_callVi (t := 11) (As := [vi x1]) (rest := []) hX dX12_addLine_2 (c_X12_isOrder (gk hX) (gl hX) hs x1 M _ er_1) kX12_isOrder vX12_isOrder w_1793 (st139 hs) rfl rfl rfl rfl (Nat.le_of_ble_eq_true rfl) z0 ?_
  refine x_if_eq (tgt := 20) hX dX12_addLine_5 (by decide) rfl (fun hc => ?_) (fun hc => ?_)
  · replace h := (if_pos hc).symm.trans h
    exact x_weak [true, true, true, true, false] rfl (tj_X12_addLine_20 hX hs x1 x2 x3 M r Mr h)
  · replace h := (if_neg hc).symm.trans h
    refine x_aloadn hX dX12_addLine_8 rfl ?_
    refine x_iloadn hX dX12_addLine_9 rfl ?_
    obtain ⟨r_14, er_14, h⟩ := cl1_of h
    refine x_callVi (t := 11) (As := [vi x2]) (rest := []) hX dX12_addLine_10 (c_X12_isItem (gk hX) (gl hX) hs x2 M _ er_14) kX12_isItem vX12_isItem w_1766 (st139 hs) rfl rfl rfl rfl (Nat.le_of_ble_eq_true rfl) z0 ?_
    refine x_if_eq (tgt := 20) hX dX12_addLine_13 (by decide) rfl (fun hc => ?_) (fun hc => ?_)
    · replace h := (if_pos hc).symm.trans h
      exact x_weak [true, true, true, true, false] rfl (tj_X12_addLine_20 hX hs x1 x2 x3 M r Mr h)
    · replace h := (if_neg hc).symm.trans h
      refine x_iconst hX dX12_addLine_16 ?_
      refine x_goto (tgt := 21) hX dX12_addLine_17 (by decide) ?_
      exact x_weak [true, true, true, true, false] rfl (tj_X12_addLine_21 hX hs x1 x2 x3 1 M r Mr h)
set_option maxRecDepth 100000 in
set_option maxHeartbeats 4000000 in
theorem c_X12_orderState {l : Launch} {G : Gx} (hG : GOK G) (hl : l.stackTraces = false) (hs : SOK G)  (x1 : Int) (M : Mem) (r : Int) (Mr : Mem) (h : f_X12_orderState x1 M = some (r, Mr)) : Cn l G mX12_orderState 4 [vr G 139, vi x1] M (some (vi r)) Mr := by
  refine Cn_of2 (ls := [some (vr G 139), some (vi x1)]) hG hl kX12_orderState rfl (Nat.le_of_ble_eq_true rfl) rfl rfl rfl rfl rfl (fun X eG el hX => ?_)
  subst eG; subst el
  unfold f_X12_orderState at h
  refine x_aloadn hX dX12_orderState_0 rfl ?_
  refine x_iloadn hX dX12_orderState_1 rfl ?_
  refine x_iconst hX dX12_orderState_2 ?_
  obtain ⟨r_1, M_2, er_1, h⟩ := cl2_of h
  refine x_callVi (t := 11) (As := [vi x1, vi 1]) (rest := []) hX dX12_orderState_3 (c_X12_told (gk hX) (gl hX) hs x1 1 M _ _ er_1) kX12_told vX12_told w_1820 (st139 hs) rfl rfl rfl rfl (Nat.le_of_ble_eq_true rfl) z0 ?_
  cases h
  exact x_iret hX dX12_orderState_6 rfl
set_option maxRecDepth 100000 in
set_option maxHeartbeats 4000000 in
theorem c_X12_lineCount {l : Launch} {G : Gx} (hG : GOK G) (hl : l.stackTraces = false) (hs : SOK G)  (x1 : Int) (M : Mem) (r : Int) (Mr : Mem) (h : f_X12_lineCount x1 M = some (r, Mr)) : Cn l G mX12_lineCount 4 [vr G 139, vi x1] M (some (vi r)) Mr := by
  refine Cn_of2 (ls := [some (vr G 139), some (vi x1)]) hG hl kX12_lineCount rfl (Nat.le_of_ble_eq_true rfl) rfl rfl rfl rfl rfl (fun X eG el hX => ?_)
  subst eG; subst el
  unfold f_X12_lineCount at h
  refine x_aloadn hX dX12_lineCount_0 rfl ?_
  refine x_iloadn hX dX12_lineCount_1 rfl ?_
  refine x_iconst hX dX12_lineCount_2 ?_
  obtain ⟨r_1, M_2, er_1, h⟩ := cl2_of h
  refine x_callVi (t := 11) (As := [vi x1, vi 2]) (rest := []) hX dX12_lineCount_3 (c_X12_told (gk hX) (gl hX) hs x1 2 M _ _ er_1) kX12_told vX12_told w_1820 (st139 hs) rfl rfl rfl rfl (Nat.le_of_ble_eq_true rfl) z0 ?_
  cases h
  exact x_iret hX dX12_lineCount_6 rfl
set_option maxRecDepth 100000 in
set_option maxHeartbeats 4000000 in
theorem c_X12_due {l : Launch} {G : Gx} (hG : GOK G) (hl : l.stackTraces = false) (hs : SOK G)  (x1 : Int) (M : Mem) (r : Int) (Mr : Mem) (h : f_X12_due x1 M = some (r, Mr)) : Cn l G mX12_due 4 [vr G 139, vi x1] M (some (vi r)) Mr := by
  refine Cn_of2 (ls := [some (vr G 139), some (vi x1)]) hG hl kX12_due rfl (Nat.le_of_ble_eq_true rfl) rfl rfl rfl rfl rfl (fun X eG el hX => ?_)
  subst eG; subst el
  unfold f_X12_due at h
  refine x_aloadn hX dX12_due_0 rfl ?_
  refine x_iloadn hX dX12_due_1 rfl ?_
  refine x_iconst hX dX12_due_2 ?_
  obtain ⟨r_1, M_2, er_1, h⟩ := cl2_of h
  refine x_callVi (t := 11) (As := [vi x1, vi 0]) (rest := []) hX dX12_due_3 (c_X12_told (gk hX) (gl hX) hs x1 0 M _ _ er_1) kX12_told vX12_told w_1820 (st139 hs) rfl rfl rfl rfl (Nat.le_of_ble_eq_true rfl) z0 ?_
  cases h
  exact x_iret hX dX12_due_6 rfl
set_option maxRecDepth 100000 in
set_option maxHeartbeats 4000000 in
theorem tj_X12_setDue_41 {X : Cxt} (hX : Gd X RX12 cX12_setDue 4 (some .int) 4) (hs : SOK (xG X))   (x1 : Int) (x2 : Int) (y1 : Int) (M : Mem) (r : Int) (Mr : Mem) (h : j_X12_setDue_41 x1 x2 y1 M = some (r, Mr)) : V X 0 0 (Qn X (some (vi r)) Mr) 41 [some (vr (xG X) 139), some (vi x1), some (vi x2), none] [vi y1, vr (xG X) 139] M := by
  unfold j_X12_setDue_41 at h
  obtain ⟨M_3, eM_3, h⟩ := bnd_of h
  refine x_putI hX dX12_setDue_41 fp_X12_70 rfl (st139 hs) (x_meq eM_3 ?_)
  refine x_aloadn hX dX12_setDue_44 rfl ?_
  refine x_getI hX dX12_setDue_45 fl_X12_70 rfl (st139 hs) ?_
  refine x_if_le (tgt := 53) hX dX12_setDue_48 (by decide) rfl (fun hc => ?_) (fun hc => ?_)
  · replace h := (if_pos hc).symm.trans h
    refine x_iconst hX dX12_setDue_51 ?_
    cases h
    exact x_iret hX dX12_setDue_52 rfl
  · replace h := (if_neg hc).symm.trans h
    refine x_aloadn hX dX12_setDue_53 rfl ?_
    refine x_iloadn hX dX12_setDue_54 rfl ?_
    refine x_iconst hX dX12_setDue_55 ?_
    obtain ⟨r_4, er_4, h⟩ := cl1_of h
    refine x_callVi (t := 11) (As := [vi x1, vi 0]) (rest := []) hX dX12_setDue_56 (c_X12_ofOrder (gk hX) (gl hX) hs x1 0 M_3 _ er_4) kX12_ofOrder vX12_ofOrder w_1797 (st139 hs) rfl rfl rfl rfl (Nat.le_of_ble_eq_true rfl) z0 ?_
    refine x_istoren (ls' := [some (vr (xG X) 139), some (vi x1), some (vi x2), some (vi r_4)]) hX dX12_setDue_59 rfl rfl rfl ?_
    refine x_aloadn hX dX12_setDue_60 rfl ?_
    refine x_getRj (j := 140) hX dX12_setDue_61 fl_X12_7 rfl (st139 hs) rfl ?_
    refine x_iloadn hX dX12_setDue_64 rfl ?_
    obtain ⟨r_6, er_6, h⟩ := cl1_of h
    refine x_callSi (As := [vi x1]) (rest := [vr (xG X) 140]) hX dX12_setDue_65 (c_X12_orderAt (gk hX) (gl hX) x1 M_3 _ er_6) kX12_orderAt sX12_orderAt w_1786 rfl rfl rfl (Nat.le_of_ble_eq_true rfl) z0 ?_
    refine x_iconst hX dX12_setDue_68 ?_
    refine x_iadd hX dX12_setDue_69 ?_
    refine x_iloadn hX dX12_setDue_70 rfl ?_
    obtain ⟨b_9, h⟩ := gi_of h
    obtain ⟨M_8, eM_8, h⟩ := bnd_of h
    refine x_iast hX dX12_setDue_71 (st140 hs) b_9 rfl (x_meq eM_8 ?_)
    refine x_iloadn hX dX12_setDue_72 rfl ?_
    cases h
    exact x_iret hX dX12_setDue_73 rfl
set_option maxRecDepth 100000 in
set_option maxHeartbeats 4000000 in
theorem c_X12_setDue {l : Launch} {G : Gx} (hG : GOK G) (hl : l.stackTraces = false) (hs : SOK G)  (x1 : Int) (x2 : Int) (M : Mem) (r : Int) (Mr : Mem) (h : f_X12_setDue x1 x2 M = some (r, Mr)) : Cn l G mX12_setDue 4 [vr G 139, vi x1, vi x2] M (some (vi r)) Mr := by
  refine Cn_of2 (ls := [some (vr G 139), some (vi x1), some (vi x2), none]) hG hl kX12_setDue rfl (Nat.le_of_ble_eq_true rfl) rfl rfl rfl rfl rfl (fun X eG el hX => ?_)
  subst eG; subst el
  unfold f_X12_setDue at h
  refine x_aloadn hX dX12_setDue_0 rfl ?_
  refine x_aloadn hX dX12_setDue_1 rfl ?_
  refine x_iloadn hX dX12_setDue_2 rfl ?_
  obtain ⟨r_1, er_1, h⟩ := cl1_of h
  refine x_callVi (t := 11) (As := [vi x1]) (rest := [vr (xG X) 139]) hX dX12_setDue_3 (c_X12_isOrder (gk hX) (gl hX) hs x1 M _ er_1) kX12_isOrder vX12_isOrder w_1793 (st139 hs) rfl rfl rfl rfl (Nat.le_of_ble_eq_true rfl) z0 ?_
  refine x_if_ne (tgt := 13) hX dX12_setDue_6 (by decide) rfl (fun hc => ?_) (fun hc => ?_)
  · replace h := (if_pos hc).symm.trans h
    refine x_iconst hX dX12_setDue_9 ?_
    refine x_goto (tgt := 41) hX dX12_setDue_10 (by decide) ?_
    exact x_weak [true, true, true, false] rfl (tj_X12_setDue_41 hX hs x1 x2 1 M r Mr h)
  · replace h := (if_neg hc).symm.trans h
    refine x_iloadn hX dX12_setDue_13 rfl ?_
    refine x_iconst hX dX12_setDue_14 ?_
    refine x_sipush hX dX12_setDue_15 sp_9999 ?_
    obtain ⟨r_10, er_10, h⟩ := cl1_of h
    refine x_callSi (As := [vi x2, vi 0, vi 9999]) (rest := [vr (xG X) 139]) hX dX12_setDue_18 (c_X12_in (gk hX) (gl hX) x2 0 9999 M _ er_10) kX12_in sX12_in w_1735 rfl rfl rfl (Nat.le_of_ble_eq_true rfl) z0 ?_
    refine x_if_ne (tgt := 28) hX dX12_setDue_21 (by decide) rfl (fun hc => ?_) (fun hc => ?_)
    · replace h := (if_pos hc).symm.trans h
      refine x_iconst hX dX12_setDue_24 ?_
      refine x_goto (tgt := 41) hX dX12_setDue_25 (by decide) ?_
      exact x_weak [true, true, true, false] rfl (tj_X12_setDue_41 hX hs x1 x2 2 M r Mr h)
    · replace h := (if_neg hc).symm.trans h
      refine x_aloadn hX dX12_setDue_28 rfl ?_
      refine x_iloadn hX dX12_setDue_29 rfl ?_
      obtain ⟨r_12, er_12, h⟩ := cl1_of h
      refine x_callVi (t := 11) (As := [vi x1]) (rest := [vr (xG X) 139]) hX dX12_setDue_30 (c_X12_isAlive (gk hX) (gl hX) hs x1 M _ er_12) kX12_isAlive vX12_isAlive w_1836 (st139 hs) rfl rfl rfl rfl (Nat.le_of_ble_eq_true rfl) z0 ?_
      refine x_if_ne (tgt := 40) hX dX12_setDue_33 (by decide) rfl (fun hc => ?_) (fun hc => ?_)
      · replace h := (if_pos hc).symm.trans h
        refine x_iconst hX dX12_setDue_36 ?_
        refine x_goto (tgt := 41) hX dX12_setDue_37 (by decide) ?_
        exact x_weak [true, true, true, false] rfl (tj_X12_setDue_41 hX hs x1 x2 3 M r Mr h)
      · replace h := (if_neg hc).symm.trans h
        refine x_iconst hX dX12_setDue_40 ?_
        exact x_weak [true, true, true, false] rfl (tj_X12_setDue_41 hX hs x1 x2 0 M r Mr h)
set_option maxRecDepth 100000 in
set_option maxHeartbeats 4000000 in
theorem tj_X12_orderWeight_14 {X : Cxt} (hX : Gd X RX12 cX12_orderWeight 2 (some .int) 4) (hs : SOK (xG X))   (x1 : Int) (y1 : Int) (M : Mem) (r : Int) (Mr : Mem) (h : j_X12_orderWeight_14 x1 y1 M = some (r, Mr)) : V X 0 0 (Qn X (some (vi r)) Mr) 14 [some (vr (xG X) 139), some (vi x1)] [vi y1, vr (xG X) 139] M := by
  unfold j_X12_orderWeight_14 at h
  obtain ⟨M_3, eM_3, h⟩ := bnd_of h
  refine x_putI hX dX12_orderWeight_14 fp_X12_70 rfl (st139 hs) (x_meq eM_3 ?_)
  refine x_aloadn hX dX12_orderWeight_17 rfl ?_
  refine x_getI hX dX12_orderWeight_18 fl_X12_70 rfl (st139 hs) ?_
  refine x_if_le (tgt := 28) hX dX12_orderWeight_21 (by decide) rfl (fun hc => ?_) (fun hc => ?_)
  · replace h := (if_pos hc).symm.trans h
    refine x_iconst hX dX12_orderWeight_24 ?_
    refine x_goto (tgt := 33) hX dX12_orderWeight_25 (by decide) ?_
    cases h
    exact x_iret hX dX12_orderWeight_33 rfl
  · replace h := (if_neg hc).symm.trans h
    refine x_aloadn hX dX12_orderWeight_28 rfl ?_
    refine x_iloadn hX dX12_orderWeight_29 rfl ?_
    obtain ⟨r_4, er_4, h⟩ := cl1_of h
    refine x_callVi (t := 11) (As := [vi x1]) (rest := []) hX dX12_orderWeight_30 (c_X12_weightOf (gk hX) (gl hX) hs x1 M_3 _ er_4) kX12_weightOf vX12_weightOf w_1844 (st139 hs) rfl rfl rfl rfl (Nat.le_of_ble_eq_true rfl) z0 ?_
    cases h
    exact x_iret hX dX12_orderWeight_33 rfl
set_option maxRecDepth 100000 in
set_option maxHeartbeats 4000000 in
theorem c_X12_orderWeight {l : Launch} {G : Gx} (hG : GOK G) (hl : l.stackTraces = false) (hs : SOK G)  (x1 : Int) (M : Mem) (r : Int) (Mr : Mem) (h : f_X12_orderWeight x1 M = some (r, Mr)) : Cn l G mX12_orderWeight 4 [vr G 139, vi x1] M (some (vi r)) Mr := by
  refine Cn_of2 (ls := [some (vr G 139), some (vi x1)]) hG hl kX12_orderWeight rfl (Nat.le_of_ble_eq_true rfl) rfl rfl rfl rfl rfl (fun X eG el hX => ?_)
  subst eG; subst el
  unfold f_X12_orderWeight at h
  refine x_aloadn hX dX12_orderWeight_0 rfl ?_
  refine x_aloadn hX dX12_orderWeight_1 rfl ?_
  refine x_iloadn hX dX12_orderWeight_2 rfl ?_
  obtain ⟨r_1, er_1, h⟩ := cl1_of h
  refine x_callVi (t := 11) (As := [vi x1]) (rest := [vr (xG X) 139]) hX dX12_orderWeight_3 (c_X12_isOrder (gk hX) (gl hX) hs x1 M _ er_1) kX12_isOrder vX12_isOrder w_1793 (st139 hs) rfl rfl rfl rfl (Nat.le_of_ble_eq_true rfl) z0 ?_
  refine x_if_eq (tgt := 13) hX dX12_orderWeight_6 (by decide) rfl (fun hc => ?_) (fun hc => ?_)
  · replace h := (if_pos hc).symm.trans h
    refine x_iconst hX dX12_orderWeight_13 ?_
    exact x_weak [true, true] rfl (tj_X12_orderWeight_14 hX hs x1 1 M r Mr h)
  · replace h := (if_neg hc).symm.trans h
    refine x_iconst hX dX12_orderWeight_9 ?_
    refine x_goto (tgt := 14) hX dX12_orderWeight_10 (by decide) ?_
    exact x_weak [true, true] rfl (tj_X12_orderWeight_14 hX hs x1 0 M r Mr h)
set_option maxRecDepth 100000 in
set_option maxHeartbeats 4000000 in
theorem tj_X12_orderAisles_14 {X : Cxt} (hX : Gd X RX12 cX12_orderAisles 2 (some .int) 4) (hs : SOK (xG X))   (x1 : Int) (y1 : Int) (M : Mem) (r : Int) (Mr : Mem) (h : j_X12_orderAisles_14 x1 y1 M = some (r, Mr)) : V X 0 0 (Qn X (some (vi r)) Mr) 14 [some (vr (xG X) 139), some (vi x1)] [vi y1, vr (xG X) 139] M := by
  unfold j_X12_orderAisles_14 at h
  obtain ⟨M_3, eM_3, h⟩ := bnd_of h
  refine x_putI hX dX12_orderAisles_14 fp_X12_70 rfl (st139 hs) (x_meq eM_3 ?_)
  refine x_aloadn hX dX12_orderAisles_17 rfl ?_
  refine x_getI hX dX12_orderAisles_18 fl_X12_70 rfl (st139 hs) ?_
  refine x_if_le (tgt := 28) hX dX12_orderAisles_21 (by decide) rfl (fun hc => ?_) (fun hc => ?_)
  · replace h := (if_pos hc).symm.trans h
    refine x_iconst hX dX12_orderAisles_24 ?_
    refine x_goto (tgt := 33) hX dX12_orderAisles_25 (by decide) ?_
    cases h
    exact x_iret hX dX12_orderAisles_33 rfl
  · replace h := (if_neg hc).symm.trans h
    refine x_aloadn hX dX12_orderAisles_28 rfl ?_
    refine x_iloadn hX dX12_orderAisles_29 rfl ?_
    obtain ⟨r_4, er_4, h⟩ := cl1_of h
    refine x_callVi (t := 11) (As := [vi x1]) (rest := []) hX dX12_orderAisles_30 (c_X12_aislesOf (gk hX) (gl hX) hs x1 M_3 _ er_4) kX12_aislesOf vX12_aislesOf w_1852 (st139 hs) rfl rfl rfl rfl (Nat.le_of_ble_eq_true rfl) z0 ?_
    cases h
    exact x_iret hX dX12_orderAisles_33 rfl
set_option maxRecDepth 100000 in
set_option maxHeartbeats 4000000 in
theorem c_X12_orderAisles {l : Launch} {G : Gx} (hG : GOK G) (hl : l.stackTraces = false) (hs : SOK G)  (x1 : Int) (M : Mem) (r : Int) (Mr : Mem) (h : f_X12_orderAisles x1 M = some (r, Mr)) : Cn l G mX12_orderAisles 4 [vr G 139, vi x1] M (some (vi r)) Mr := by
  refine Cn_of2 (ls := [some (vr G 139), some (vi x1)]) hG hl kX12_orderAisles rfl (Nat.le_of_ble_eq_true rfl) rfl rfl rfl rfl rfl (fun X eG el hX => ?_)
  subst eG; subst el
  unfold f_X12_orderAisles at h
  refine x_aloadn hX dX12_orderAisles_0 rfl ?_
  refine x_aloadn hX dX12_orderAisles_1 rfl ?_
  refine x_iloadn hX dX12_orderAisles_2 rfl ?_
  obtain ⟨r_1, er_1, h⟩ := cl1_of h
  refine x_callVi (t := 11) (As := [vi x1]) (rest := [vr (xG X) 139]) hX dX12_orderAisles_3 (c_X12_isOrder (gk hX) (gl hX) hs x1 M _ er_1) kX12_isOrder vX12_isOrder w_1793 (st139 hs) rfl rfl rfl rfl (Nat.le_of_ble_eq_true rfl) z0 ?_
  refine x_if_eq (tgt := 13) hX dX12_orderAisles_6 (by decide) rfl (fun hc => ?_) (fun hc => ?_)
  · replace h := (if_pos hc).symm.trans h
    refine x_iconst hX dX12_orderAisles_13 ?_
    exact x_weak [true, true] rfl (tj_X12_orderAisles_14 hX hs x1 1 M r Mr h)
  · replace h := (if_neg hc).symm.trans h
    refine x_iconst hX dX12_orderAisles_9 ?_
    refine x_goto (tgt := 14) hX dX12_orderAisles_10 (by decide) ?_
    exact x_weak [true, true] rfl (tj_X12_orderAisles_14 hX hs x1 0 M r Mr h)
set_option maxRecDepth 100000 in
set_option maxHeartbeats 4000000 in
theorem tj_X12_cancel_53 {X : Cxt} (hX : Gd X RX12 cX12_cancel 2 (some .int) 4) (hs : SOK (xG X))   (x1 : Int) (M : Mem) (r : Int) (Mr : Mem) (h : j_X12_cancel_53 x1 M = some (r, Mr)) : V X 0 0 (Qn X (some (vi r)) Mr) 53 [some (vr (xG X) 139), some (vi x1)] [] M := by
  unfold j_X12_cancel_53 at h
  refine x_aloadn hX dX12_cancel_53 rfl ?_
  refine x_getRj (j := 140) hX dX12_cancel_54 fl_X12_7 rfl (st139 hs) rfl ?_
  refine x_iloadn hX dX12_cancel_57 rfl ?_
  obtain ⟨r_8, er_8, h⟩ := cl1_of h
  refine x_callSi (As := [vi x1]) (rest := [vr (xG X) 140]) hX dX12_cancel_58 (c_X12_orderAt (gk hX) (gl hX) x1 M _ er_8) kX12_orderAt sX12_orderAt w_1786 rfl rfl rfl (Nat.le_of_ble_eq_true rfl) z0 ?_
  refine x_iconst hX dX12_cancel_61 ?_
  refine x_iadd hX dX12_cancel_62 ?_
  refine x_iconst hX dX12_cancel_63 ?_
  obtain ⟨b_11, h⟩ := gi_of h
  obtain ⟨M_10, eM_10, h⟩ := bnd_of h
  refine x_iast hX dX12_cancel_64 (st140 hs) b_11 rfl (x_meq eM_10 ?_)
  refine x_aloadn hX dX12_cancel_65 rfl ?_
  refine x_getRj (j := 140) hX dX12_cancel_66 fl_X12_7 rfl (st139 hs) rfl ?_
  refine x_iconst hX dX12_cancel_69 ?_
  refine x_iald hX dX12_cancel_70 (st140 hs) inc_5_469 ixc_5 ?_
  cases h
  exact x_iret hX dX12_cancel_71 rfl
set_option maxRecDepth 100000 in
set_option maxHeartbeats 4000000 in
theorem tj_X12_cancel_26 {X : Cxt} (hX : Gd X RX12 cX12_cancel 2 (some .int) 4) (hs : SOK (xG X))   (x1 : Int) (y1 : Int) (M : Mem) (r : Int) (Mr : Mem) (h : j_X12_cancel_26 x1 y1 M = some (r, Mr)) : V X 0 0 (Qn X (some (vi r)) Mr) 26 [some (vr (xG X) 139), some (vi x1)] [vi y1, vr (xG X) 139] M := by
  unfold j_X12_cancel_26 at h
  obtain ⟨M_3, eM_3, h⟩ := bnd_of h
  refine x_putI hX dX12_cancel_26 fp_X12_70 rfl (st139 hs) (x_meq eM_3 ?_)
  refine x_aloadn hX dX12_cancel_29 rfl ?_
  refine x_getI hX dX12_cancel_30 fl_X12_70 rfl (st139 hs) ?_
  refine x_if_le (tgt := 38) hX dX12_cancel_33 (by decide) rfl (fun hc => ?_) (fun hc => ?_)
  · replace h := (if_pos hc).symm.trans h
    refine x_iconst hX dX12_cancel_36 ?_
    cases h
    exact x_iret hX dX12_cancel_37 rfl
  · replace h := (if_neg hc).symm.trans h
    refine x_aloadn hX dX12_cancel_38 rfl ?_
    refine x_iloadn hX dX12_cancel_39 rfl ?_
    refine x_iconst hX dX12_cancel_40 ?_
    obtain ⟨r_4, er_4, h⟩ := cl1_of h
    refine x_callVi (t := 11) (As := [vi x1, vi 1]) (rest := []) hX dX12_cancel_41 (c_X12_ofOrder (gk hX) (gl hX) hs x1 1 M_3 _ er_4) kX12_ofOrder vX12_ofOrder w_1797 (st139 hs) rfl rfl rfl rfl (Nat.le_of_ble_eq_true rfl) z0 ?_
    refine x_iconst hX dX12_cancel_44 ?_
    refine x_icmp_ne (tgt := 53) hX dX12_cancel_45 (by decide) rfl cw_1 (fun hc => ?_) (fun hc => ?_)
    · replace h := (if_pos hc).symm.trans h
      refine x_aloadn hX dX12_cancel_48 rfl ?_
      refine x_iloadn hX dX12_cancel_49 rfl ?_
      obtain ⟨M_7, er_6, h⟩ := cl1_of h
      refine x_callVv (t := 11) (As := [vi x1]) (rest := []) hX dX12_cancel_50 (c_X12_leaves (gk hX) (gl hX) hs x1 M_3 _ er_6) kX12_leaves vX12_leaves w_1860 (st139 hs) rfl rfl rfl rfl (Nat.le_of_ble_eq_true rfl) z0 ?_
      exact x_weak [true, true] rfl (tj_X12_cancel_53 hX hs x1 M_7 r Mr h)
    · replace h := (if_neg hc).symm.trans h
      exact x_weak [true, true] rfl (tj_X12_cancel_53 hX hs x1 M_3 r Mr h)
set_option maxRecDepth 100000 in
set_option maxHeartbeats 4000000 in
theorem c_X12_cancel {l : Launch} {G : Gx} (hG : GOK G) (hl : l.stackTraces = false) (hs : SOK G)  (x1 : Int) (M : Mem) (r : Int) (Mr : Mem) (h : f_X12_cancel x1 M = some (r, Mr)) : Cn l G mX12_cancel 4 [vr G 139, vi x1] M (some (vi r)) Mr := by
  refine Cn_of2 (ls := [some (vr G 139), some (vi x1)]) hG hl kX12_cancel rfl (Nat.le_of_ble_eq_true rfl) rfl rfl rfl rfl rfl (fun X eG el hX => ?_)
  subst eG; subst el
  unfold f_X12_cancel at h
  refine x_aloadn hX dX12_cancel_0 rfl ?_
  refine x_aloadn hX dX12_cancel_1 rfl ?_
  refine x_iloadn hX dX12_cancel_2 rfl ?_
  obtain ⟨r_1, er_1, h⟩ := cl1_of h
  refine x_callVi (t := 11) (As := [vi x1]) (rest := [vr (xG X) 139]) hX dX12_cancel_3 (c_X12_isOrder (gk hX) (gl hX) hs x1 M _ er_1) kX12_isOrder vX12_isOrder w_1793 (st139 hs) rfl rfl rfl rfl (Nat.le_of_ble_eq_true rfl) z0 ?_
  refine x_if_ne (tgt := 13) hX dX12_cancel_6 (by decide) rfl (fun hc => ?_) (fun hc => ?_)
  · replace h := (if_pos hc).symm.trans h
    refine x_iconst hX dX12_cancel_9 ?_
    refine x_goto (tgt := 26) hX dX12_cancel_10 (by decide) ?_
    exact x_weak [true, true] rfl (tj_X12_cancel_26 hX hs x1 1 M r Mr h)
  · replace h := (if_neg hc).symm.trans h
    refine x_aloadn hX dX12_cancel_13 rfl ?_
    refine x_iloadn hX dX12_cancel_14 rfl ?_
    obtain ⟨r_12, er_12, h⟩ := cl1_of h
    refine x_callVi (t := 11) (As := [vi x1]) (rest := [vr (xG X) 139]) hX dX12_cancel_15 (c_X12_isAlive (gk hX) (gl hX) hs x1 M _ er_12) kX12_isAlive vX12_isAlive w_1836 (st139 hs) rfl rfl rfl rfl (Nat.le_of_ble_eq_true rfl) z0 ?_
    refine x_if_ne (tgt := 25) hX dX12_cancel_18 (by decide) rfl (fun hc => ?_) (fun hc => ?_)
    · replace h := (if_pos hc).symm.trans h
      refine x_iconst hX dX12_cancel_21 ?_
      refine x_goto (tgt := 26) hX dX12_cancel_22 (by decide) ?_
      exact x_weak [true, true] rfl (tj_X12_cancel_26 hX hs x1 2 M r Mr h)
    · replace h := (if_neg hc).symm.trans h
      refine x_iconst hX dX12_cancel_25 ?_
      exact x_weak [true, true] rfl (tj_X12_cancel_26 hX hs x1 0 M r Mr h)
set_option maxRecDepth 100000 in
set_option maxHeartbeats 4000000 in
theorem tj_X12_candidates_39_4 {X : Cxt} (hX : Gd X RX12 cX12_candidates 4 (some .int) 4) (hs : SOK (xG X))   (x1 : Int) (x3 : Int) (y0 : Int) (y1 : Int) (M : Mem) {Q : State → Prop} (o : (Int × Int) ⊕ ((Int) ⊕ (Int))) (h : j_X12_candidates_39_4 x1 x3 y0 y1 M = some o) (hP : ∀ y, o = .inl y → V X 0 0 Q 4 [some (vr (xG X) 139), some (vi x1), some (vi y.1), some (vi y.2)] [] M) (hE : ∀ z, o = .inr (.inl z) → V X 0 0 Q 47 [none, none, some (vi z), none] [] M) (hR : ∀ q, o = .inr (.inr q) → Q = Qn X (some (vi q)) M) : V X 0 0 Q 39 [some (vr (xG X) 139), some (vi x1), none, some (vi x3)] [vi y1, vi y0] M := by
  unfold j_X12_candidates_39_4 at h
  refine x_ior hX dX12_candidates_39 ?_
  obtain ⟨x2_3, ex2_3, h⟩ := bnd_of h
  refine x_istoren (ls' := [some (vr (xG X) 139), some (vi x1), some (vi x2_3), some (vi x3)]) hX dX12_candidates_40 rfl ex2_3 rfl ?_
  obtain ⟨x3_4, ex3_4, h⟩ := bnd_of h
  refine x_iinc (ls' := [some (vr (xG X) 139), some (vi x1), some (vi x2_3), some (vi x3_4)]) hX dX12_candidates_41 rfl rfl ex3_4 rfl ?_
  refine x_goto (tgt := 4) hX dX12_candidates_44 (by decide) ?_
  exact x_weak [true, true, true, true] rfl (hP (x2_3, x3_4) (Option.some.inj h).symm)
set_option maxRecDepth 100000 in
set_option maxHeartbeats 4000000 in
theorem tj_X12_candidates_38_4 {X : Cxt} (hX : Gd X RX12 cX12_candidates 4 (some .int) 4) (hs : SOK (xG X))   (x1 : Int) (x3 : Int) (y0 : Int) (M : Mem) {Q : State → Prop} (o : (Int × Int) ⊕ ((Int) ⊕ (Int))) (h : j_X12_candidates_38_4 x1 x3 y0 M = some o) (hP : ∀ y, o = .inl y → V X 0 0 Q 4 [some (vr (xG X) 139), some (vi x1), some (vi y.1), some (vi y.2)] [] M) (hE : ∀ z, o = .inr (.inl z) → V X 0 0 Q 47 [none, none, some (vi z), none] [] M) (hR : ∀ q, o = .inr (.inr q) → Q = Qn X (some (vi q)) M) : V X 0 0 Q 38 [some (vr (xG X) 139), some (vi x1), none, some (vi x3)] [vi y0] M := by
  unfold j_X12_candidates_38_4 at h
  refine x_iconst hX dX12_candidates_38 ?_
  exact x_weak [true, true, false, true] rfl (tj_X12_candidates_39_4 hX hs x1 x3 y0 0 M o h hP hE hR)
set_option maxRecDepth 100000 in
set_option maxHeartbeats 4000000 in
theorem ts_X12_candidates_4 {X : Cxt} (hX : Gd X RX12 cX12_candidates 4 (some .int) 4) (hs : SOK (xG X))  (x1 : Int) (M : Mem) (x2 : Int) (x3 : Int) {Q : State → Prop} (o : (Int × Int) ⊕ ((Int) ⊕ (Int))) (h : s_X12_candidates_4 x1 M x2 x3 = some o) (hP : ∀ y, o = .inl y → V X 0 0 Q 4 [some (vr (xG X) 139), some (vi x1), some (vi y.1), some (vi y.2)] [] M) (hE : ∀ z, o = .inr (.inl z) → V X 0 0 Q 47 [none, none, some (vi z), none] [] M) (hR : ∀ q, o = .inr (.inr q) → Q = Qn X (some (vi q)) M) : V X 0 0 Q 4 [some (vr (xG X) 139), some (vi x1), some (vi x2), some (vi x3)] [] M := by
  unfold s_X12_candidates_4 at h
  refine x_iloadn hX dX12_candidates_4 rfl ?_
  refine x_aloadn hX dX12_candidates_5 rfl ?_
  refine x_getRj (j := 140) hX dX12_candidates_6 fl_X12_7 rfl (st139 hs) rfl ?_
  refine x_iconst hX dX12_candidates_9 ?_
  refine x_iald hX dX12_candidates_10 (st140 hs) inc_4_469 ixc_4 ?_
  refine x_icmp_ge (tgt := 47) hX dX12_candidates_11 (by decide) rfl rfl (fun hc => ?_) (fun hc => ?_)
  · replace h := (if_pos hc).symm.trans h
    refine x_iloadn hX dX12_candidates_14 rfl ?_
    refine x_aloadn hX dX12_candidates_15 rfl ?_
    refine x_iloadn hX dX12_candidates_16 rfl ?_
    obtain ⟨r_1, er_1, h⟩ := cl1_of h
    refine x_callVi (t := 11) (As := [vi x3]) (rest := [vi x2]) hX dX12_candidates_17 (c_X12_canBatch (gk hX) (gl hX) hs x3 M _ er_1) kX12_canBatch vX12_canBatch w_1884 (st139 hs) rfl rfl rfl rfl (Nat.le_of_ble_eq_true rfl) z0 ?_
    refine x_if_eq (tgt := 38) hX dX12_candidates_20 (by decide) rfl (fun hc => ?_) (fun hc => ?_)
    · replace h := (if_pos hc).symm.trans h
      exact x_weak [true, true, false, true] rfl (tj_X12_candidates_38_4 hX hs x1 x3 x2 M o h hP hE hR)
    · replace h := (if_neg hc).symm.trans h
      refine x_aloadn hX dX12_candidates_23 rfl ?_
      refine x_iloadn hX dX12_candidates_24 rfl ?_
      obtain ⟨r_5, er_5, h⟩ := cl1_of h
      refine x_callVi (t := 11) (As := [vi x3]) (rest := [vi x2]) hX dX12_candidates_25 (c_X12_weightOf (gk hX) (gl hX) hs x3 M _ er_5) kX12_weightOf vX12_weightOf w_1844 (st139 hs) rfl rfl rfl rfl (Nat.le_of_ble_eq_true rfl) z0 ?_
      refine x_iloadn hX dX12_candidates_28 rfl ?_
      refine x_icmp_gt (tgt := 38) hX dX12_candidates_29 (by decide) rfl rfl (fun hc => ?_) (fun hc => ?_)
      · replace h := (if_pos hc).symm.trans h
        exact x_weak [true, true, false, true] rfl (tj_X12_candidates_38_4 hX hs x1 x3 x2 M o h hP hE hR)
      · replace h := (if_neg hc).symm.trans h
        refine x_iconst hX dX12_candidates_32 ?_
        refine x_iloadn hX dX12_candidates_33 rfl ?_
        refine x_ishl hX dX12_candidates_34 ?_
        refine x_goto (tgt := 39) hX dX12_candidates_35 (by decide) ?_
        exact x_weak [true, true, false, true] rfl (tj_X12_candidates_39_4 hX hs x1 x3 x2 (i_shl 1 x3) M o h hP hE hR)
  · replace h := (if_neg hc).symm.trans h
    exact x_weak [false, false, true, false] rfl (hE x2 (Option.some.inj h).symm)
set_option maxRecDepth 100000 in
set_option maxHeartbeats 4000000 in
theorem c_X12_candidates {l : Launch} {G : Gx} (hG : GOK G) (hl : l.stackTraces = false) (hs : SOK G)  (x1 : Int) (M : Mem) (r : Int) (h : f_X12_candidates x1 M = some r) : Cn l G mX12_candidates 4 [vr G 139, vi x1] M (some (vi r)) M := by
  refine Cn_of2 (ls := [some (vr G 139), some (vi x1), none, none]) hG hl kX12_candidates rfl (Nat.le_of_ble_eq_true rfl) rfl rfl rfl rfl rfl (fun X eG el hX => ?_)
  subst eG; subst el
  unfold f_X12_candidates at h
  refine x_iconst hX dX12_candidates_0 ?_
  refine x_istoren (ls' := [some (vr (xG X) 139), some (vi x1), some (vi 0), none]) hX dX12_candidates_1 rfl rfl rfl ?_
  refine x_iconst hX dX12_candidates_2 ?_
  refine x_istoren (ls' := [some (vr (xG X) 139), some (vi x1), some (vi 0), some (vi 0)]) hX dX12_candidates_3 rfl rfl rfl ?_
  refine x_weak (ls' := [some (vr (xG X) 139), some (vi x1), some (vi 0), some (vi 0)]) [true, true, true, true] rfl ?_
  refine lp_use (x := (0, 0)) (P := fun x => V X 0 0 (Qn X (some (vi r)) M) 4 [some (vr (xG X) 139), some (vi x1), some (vi x.1), some (vi x.2)] [] M) (PE := fun z_7 => V X 0 0 (Qn X (some (vi r)) M) 47 [none, none, some (vi z_7), none] [] M) (PR := fun q => (Qn X (some (vi r)) M) = Qn X (some (vi q)) M) h (fun x o hh hP hE hR => ts_X12_candidates_4 hX hs x1 M x.1 x.2 o hh hP hE hR) (fun z_7 h => ?_) (fun q h => ?_)
  · show V X 0 0 (Qn X (some (vi r)) M) 47 [none, none, some (vi z_7), none] [] M
    refine x_iloadn hX dX12_candidates_47 rfl ?_
    cases h
    exact x_iret hX dX12_candidates_48 rfl
  · cases h; rfl
set_option maxRecDepth 100000 in
set_option maxHeartbeats 4000000 in
theorem c_X12_seedBy {l : Launch} {G : Gx} (hG : GOK G) (hl : l.stackTraces = false) (hs : SOK G)  (x1 : Int) (x2 : Int) (M : Mem) (r : Int) (h : f_X12_seedBy x1 x2 M = some r) : Cn l G mX12_seedBy 4 [vr G 139, vi x1, vi x2] M (some (vi r)) M := by
  refine Cn_of2 (ls := [some (vr G 139), some (vi x1), some (vi x2)]) hG hl kX12_seedBy rfl (Nat.le_of_ble_eq_true rfl) rfl rfl rfl rfl rfl (fun X eG el hX => ?_)
  subst eG; subst el
  unfold f_X12_seedBy at h
  refine x_iloadn hX dX12_seedBy_0 rfl ?_
  refine x_if_ne (tgt := 14) hX dX12_seedBy_1 (by decide) rfl (fun hc => ?_) (fun hc => ?_)
  · replace h := (if_pos hc).symm.trans h
    refine x_aloadn hX dX12_seedBy_4 rfl ?_
    refine x_iloadn hX dX12_seedBy_5 rfl ?_
    refine x_iconst hX dX12_seedBy_6 ?_
    obtain ⟨r_1, er_1, h⟩ := cl1_of h
    refine x_callVi (t := 11) (As := [vi x1, vi 0]) (rest := []) hX dX12_seedBy_7 (c_X12_ofOrder (gk hX) (gl hX) hs x1 0 M _ er_1) kX12_ofOrder vX12_ofOrder w_1797 (st139 hs) rfl rfl rfl rfl (Nat.le_of_ble_eq_true rfl) z0 ?_
    refine x_ineg hX dX12_seedBy_10 ?_
    refine x_goto (tgt := 35) hX dX12_seedBy_11 (by decide) ?_
    cases h
    exact x_iret hX dX12_seedBy_35 rfl
  · replace h := (if_neg hc).symm.trans h
    refine x_iloadn hX dX12_seedBy_14 rfl ?_
    refine x_iconst hX dX12_seedBy_15 ?_
    refine x_icmp_ne (tgt := 27) hX dX12_seedBy_16 (by decide) rfl cw_1 (fun hc => ?_) (fun hc => ?_)
    · replace h := (if_pos hc).symm.trans h
      refine x_aloadn hX dX12_seedBy_19 rfl ?_
      refine x_iloadn hX dX12_seedBy_20 rfl ?_
      obtain ⟨r_3, er_3, h⟩ := cl1_of h
      refine x_callVi (t := 11) (As := [vi x1]) (rest := []) hX dX12_seedBy_21 (c_X12_weightOf (gk hX) (gl hX) hs x1 M _ er_3) kX12_weightOf vX12_weightOf w_1844 (st139 hs) rfl rfl rfl rfl (Nat.le_of_ble_eq_true rfl) z0 ?_
      refine x_goto (tgt := 35) hX dX12_seedBy_24 (by decide) ?_
      cases h
      exact x_iret hX dX12_seedBy_35 rfl
    · replace h := (if_neg hc).symm.trans h
      refine x_aloadn hX dX12_seedBy_27 rfl ?_
      refine x_iloadn hX dX12_seedBy_28 rfl ?_
      obtain ⟨r_5, er_5, h⟩ := cl1_of h
      refine x_callVi (t := 11) (As := [vi x1]) (rest := []) hX dX12_seedBy_29 (c_X12_aislesOf (gk hX) (gl hX) hs x1 M _ er_5) kX12_aislesOf vX12_aislesOf w_1852 (st139 hs) rfl rfl rfl rfl (Nat.le_of_ble_eq_true rfl) z0 ?_
      obtain ⟨r_7, er_7, h⟩ := cl1_of h
      refine x_callSi (As := [vi r_5]) (rest := []) hX dX12_seedBy_32 (c_X12_ones (gk hX) (gl hX) r_5 M _ er_7) kX12_ones sX12_ones w_1896 rfl rfl rfl (Nat.le_of_ble_eq_true rfl) z0 ?_
      cases h
      exact x_iret hX dX12_seedBy_35 rfl
