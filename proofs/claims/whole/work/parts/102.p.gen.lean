-- written by wip/gen/emit.py: X6_sShapeCost, X6_findLargestGap, X6_stayingCost, X6_crossingCost, X6_visitPlace, X7_workInAll, X7_exitOpens, X7_completion, X9_sortByKeys, X9_applyTo, X10_append, X10_fail, X10_isWithin, X10_passWord, X10_passNumber
set_option maxRecDepth 100000 in
set_option maxHeartbeats 4000000 in
theorem c_X6_sShapeCost {l : Launch} {G : Gx} (hG : GOK G) (hl : l.stackTraces = false) {th : Nat} (h0 : at_ G th 16 0) (M : Mem) (r : Int) (h : f_X6_sShapeCost th M = some r) : Cn l G mX6_sShapeCost 1 [vr G th] M (some (vi r)) M := by
  refine Cn_of2 (ls := [some (vr G th)]) hG hl kX6_sShapeCost rfl (Nat.le_of_ble_eq_true rfl) rfl rfl rfl rfl rfl (fun X eG el hX => ?_)
  subst eG; subst el
  unfold f_X6_sShapeCost at h
  refine x_aloadn hX dX6_sShapeCost_0 rfl ?_
  refine x_getI hX dX6_sShapeCost_1 fl_X6_107 rfl h0 ?_
  refine x_iconst hX dX6_sShapeCost_4 ?_
  refine x_irem hX dX6_sShapeCost_5 nz_2 ?_
  refine x_if_ne (tgt := 19) hX dX6_sShapeCost_6 (by decide) rfl (fun hc => ?_) (fun hc => ?_)
  · replace h := (if_pos hc).symm.trans h
    refine x_aloadn hX dX6_sShapeCost_9 rfl ?_
    refine x_getI hX dX6_sShapeCost_10 fl_X6_107 rfl h0 ?_
    refine x_aloadn hX dX6_sShapeCost_13 rfl ?_
    refine x_getI hX dX6_sShapeCost_14 fl_X6_55 rfl h0 ?_
    refine x_imul hX dX6_sShapeCost_17 ?_
    cases h
    exact x_iret hX dX6_sShapeCost_18 rfl
  · replace h := (if_neg hc).symm.trans h
    refine x_aloadn hX dX6_sShapeCost_19 rfl ?_
    refine x_getI hX dX6_sShapeCost_20 fl_X6_107 rfl h0 ?_
    refine x_iconst hX dX6_sShapeCost_23 ?_
    refine x_isub hX dX6_sShapeCost_24 ?_
    refine x_aloadn hX dX6_sShapeCost_25 rfl ?_
    refine x_getI hX dX6_sShapeCost_26 fl_X6_55 rfl h0 ?_
    refine x_imul hX dX6_sShapeCost_29 ?_
    refine x_iconst hX dX6_sShapeCost_30 ?_
    refine x_aloadn hX dX6_sShapeCost_31 rfl ?_
    refine x_getRj (j := th + 3) hX dX6_sShapeCost_32 fl_X6_18 rfl h0 rfl ?_
    refine x_aloadn hX dX6_sShapeCost_35 rfl ?_
    refine x_getRj (j := th + 5) hX dX6_sShapeCost_36 fl_X6_24 rfl h0 rfl ?_
    refine x_aloadn hX dX6_sShapeCost_39 rfl ?_
    refine x_getI hX dX6_sShapeCost_40 fl_X6_107 rfl h0 ?_
    refine x_iconst hX dX6_sShapeCost_43 ?_
    refine x_isub hX dX6_sShapeCost_44 ?_
    obtain ⟨b_1, h⟩ := gi_of h
    refine x_iald hX dX6_sShapeCost_45 (fo_6_7 (gk hX) h0) b_1 rfl ?_
    obtain ⟨b_2, h⟩ := gi_of h
    refine x_iald hX dX6_sShapeCost_46 (fo_6_4 (gk hX) h0) b_2 rfl ?_
    refine x_imul hX dX6_sShapeCost_47 ?_
    refine x_iadd hX dX6_sShapeCost_48 ?_
    cases h
    exact x_iret hX dX6_sShapeCost_49 rfl
set_option maxRecDepth 100000 in
set_option maxHeartbeats 4000000 in
theorem tj_X6_findLargestGap_84_14 {X : Cxt} (hX : Gd X RX6 cX6_findLargestGap 5 (none) 1) {th : Nat} (h0 : at_ (xG X) th 16 0)  (x1 : Int) (x2 : Int) (x3 : Int) (M : Mem) {Q : State → Prop} (o : (Int × Int × Mem) ⊕ ((Mem) ⊕ (Mem))) (h : j_X6_findLargestGap_84_14 th x1 x2 x3 M = some o) (hP : ∀ y, o = .inl y → V X 0 0 Q 14 [some (vr (xG X) th), some (vi x1), some (vi y.1), some (vi y.2.1), none] [] y.2.2) (hE : ∀ z, o = .inr (.inl z) → V X 0 0 Q 90 [none, none, none, none, none] [] z) (hR : ∀ q, o = .inr (.inr q) → Q = Qn X none q) : V X 0 0 Q 84 [some (vr (xG X) th), some (vi x1), some (vi x2), some (vi x3), none] [] M := by
  unfold j_X6_findLargestGap_84_14 at h
  obtain ⟨x3_3, ex3_3, h⟩ := bnd_of h
  refine x_iinc (ls' := [some (vr (xG X) th), some (vi x1), some (vi x2), some (vi x3_3), none]) hX dX6_findLargestGap_84 rfl rfl ex3_3 rfl ?_
  refine x_goto (tgt := 14) hX dX6_findLargestGap_87 (by decide) ?_
  exact x_weak [true, true, true, true, false] rfl (hP (x2, x3_3, M) (Option.some.inj h).symm)
set_option maxRecDepth 100000 in
set_option maxHeartbeats 4000000 in
theorem tj_X6_findLargestGap_77_14 {X : Cxt} (hX : Gd X RX6 cX6_findLargestGap 5 (none) 1) {th : Nat} (h0 : at_ (xG X) th 16 0)  (x1 : Int) (x2 : Int) (x3 : Int) (x4 : Int) (M : Mem) {Q : State → Prop} (o : (Int × Int × Mem) ⊕ ((Mem) ⊕ (Mem))) (h : j_X6_findLargestGap_77_14 th x1 x2 x3 x4 M = some o) (hP : ∀ y, o = .inl y → V X 0 0 Q 14 [some (vr (xG X) th), some (vi x1), some (vi y.1), some (vi y.2.1), none] [] y.2.2) (hE : ∀ z, o = .inr (.inl z) → V X 0 0 Q 90 [none, none, none, none, none] [] z) (hR : ∀ q, o = .inr (.inr q) → Q = Qn X none q) : V X 0 0 Q 77 [some (vr (xG X) th), some (vi x1), some (vi x2), some (vi x3), some (vi x4)] [] M := by
  unfold j_X6_findLargestGap_77_14 at h
  refine x_iload hX dX6_findLargestGap_77 rfl ?_
  refine x_if_eq (tgt := 84) hX dX6_findLargestGap_79 (by decide) rfl (fun hc => ?_) (fun hc => ?_)
  · replace h := (if_pos hc).symm.trans h
    exact x_weak [true, true, true, true, false] rfl (tj_X6_findLargestGap_84_14 hX h0 x1 x2 x3 M o h hP hE hR)
  · replace h := (if_neg hc).symm.trans h
    refine x_iloadn hX dX6_findLargestGap_82 rfl ?_
    refine x_istoren (ls' := [some (vr (xG X) th), some (vi x1), some (vi x3), some (vi x3), some (vi x4)]) hX dX6_findLargestGap_83 rfl rfl rfl ?_
    exact x_weak [true, true, true, true, false] rfl (tj_X6_findLargestGap_84_14 hX h0 x1 x3 x3 M o h hP hE hR)
set_option maxRecDepth 100000 in
set_option maxHeartbeats 4000000 in
theorem tj_X6_findLargestGap_48_14 {X : Cxt} (hX : Gd X RX6 cX6_findLargestGap 5 (none) 1) {th : Nat} (h0 : at_ (xG X) th 16 0)  (x1 : Int) (x2 : Int) (x3 : Int) (y0 : Int) (M : Mem) {Q : State → Prop} (o : (Int × Int × Mem) ⊕ ((Mem) ⊕ (Mem))) (h : j_X6_findLargestGap_48_14 th x1 x2 x3 y0 M = some o) (hP : ∀ y, o = .inl y → V X 0 0 Q 14 [some (vr (xG X) th), some (vi x1), some (vi y.1), some (vi y.2.1), none] [] y.2.2) (hE : ∀ z, o = .inr (.inl z) → V X 0 0 Q 90 [none, none, none, none, none] [] z) (hR : ∀ q, o = .inr (.inr q) → Q = Qn X none q) : V X 0 0 Q 48 [some (vr (xG X) th), some (vi x1), some (vi x2), some (vi x3), none] [vi y0] M := by
  unfold j_X6_findLargestGap_48_14 at h
  refine x_istore (ls' := [some (vr (xG X) th), some (vi x1), some (vi x2), some (vi x3), some (vi y0)]) hX dX6_findLargestGap_48 rfl rfl rfl ?_
  refine x_iload hX dX6_findLargestGap_50 rfl ?_
  refine x_if_eq (tgt := 77) hX dX6_findLargestGap_52 (by decide) rfl (fun hc => ?_) (fun hc => ?_)
  · replace h := (if_pos hc).symm.trans h
    exact x_weak [true, true, true, true, true] rfl (tj_X6_findLargestGap_77_14 hX h0 x1 x2 x3 y0 M o h hP hE hR)
  · replace h := (if_neg hc).symm.trans h
    refine x_iloadn hX dX6_findLargestGap_55 rfl ?_
    refine x_iloadn hX dX6_findLargestGap_56 rfl ?_
    refine x_isub hX dX6_findLargestGap_57 ?_
    refine x_aloadn hX dX6_findLargestGap_58 rfl ?_
    refine x_getI hX dX6_findLargestGap_59 fl_X6_130 rfl h0 ?_
    refine x_icmp_le (tgt := 77) hX dX6_findLargestGap_62 (by decide) rfl rfl (fun hc => ?_) (fun hc => ?_)
    · replace h := (if_pos hc).symm.trans h
      refine x_aloadn hX dX6_findLargestGap_65 rfl ?_
      refine x_iloadn hX dX6_findLargestGap_66 rfl ?_
      obtain ⟨M_4, eM_4, h⟩ := bnd_of h
      refine x_putI hX dX6_findLargestGap_67 fp_X6_133 rfl h0 (x_meq eM_4 ?_)
      refine x_aloadn hX dX6_findLargestGap_70 rfl ?_
      refine x_iloadn hX dX6_findLargestGap_71 rfl ?_
      refine x_iloadn hX dX6_findLargestGap_72 rfl ?_
      refine x_isub hX dX6_findLargestGap_73 ?_
      obtain ⟨M_5, eM_5, h⟩ := bnd_of h
      refine x_putI hX dX6_findLargestGap_74 fp_X6_130 rfl h0 (x_meq eM_5 ?_)
      exact x_weak [true, true, true, true, true] rfl (tj_X6_findLargestGap_77_14 hX h0 x1 x2 x3 y0 M_5 o h hP hE hR)
    · replace h := (if_neg hc).symm.trans h
      exact x_weak [true, true, true, true, true] rfl (tj_X6_findLargestGap_77_14 hX h0 x1 x2 x3 y0 M o h hP hE hR)
set_option maxRecDepth 100000 in
set_option maxHeartbeats 4000000 in
theorem tj_X6_findLargestGap_43_14 {X : Cxt} (hX : Gd X RX6 cX6_findLargestGap 5 (none) 1) {th : Nat} (h0 : at_ (xG X) th 16 0)  (x1 : Int) (x2 : Int) (x3 : Int) (M : Mem) {Q : State → Prop} (o : (Int × Int × Mem) ⊕ ((Mem) ⊕ (Mem))) (h : j_X6_findLargestGap_43_14 th x1 x2 x3 M = some o) (hP : ∀ y, o = .inl y → V X 0 0 Q 14 [some (vr (xG X) th), some (vi x1), some (vi y.1), some (vi y.2.1), none] [] y.2.2) (hE : ∀ z, o = .inr (.inl z) → V X 0 0 Q 90 [none, none, none, none, none] [] z) (hR : ∀ q, o = .inr (.inr q) → Q = Qn X none q) : V X 0 0 Q 43 [some (vr (xG X) th), some (vi x1), some (vi x2), some (vi x3), none] [] M := by
  unfold j_X6_findLargestGap_43_14 at h
  refine x_iconst hX dX6_findLargestGap_43 ?_
  refine x_goto (tgt := 48) hX dX6_findLargestGap_44 (by decide) ?_
  exact x_weak [true, true, true, true, false] rfl (tj_X6_findLargestGap_48_14 hX h0 x1 x2 x3 1 M o h hP hE hR)
set_option maxRecDepth 100000 in
set_option maxHeartbeats 4000000 in
theorem ts_X6_findLargestGap_14 {X : Cxt} (hX : Gd X RX6 cX6_findLargestGap 5 (none) 1) {th : Nat} (h0 : at_ (xG X) th 16 0) (x1 : Int) (x2 : Int) (x3 : Int) (M : Mem) {Q : State → Prop} (o : (Int × Int × Mem) ⊕ ((Mem) ⊕ (Mem))) (h : s_X6_findLargestGap_14 th x1 x2 x3 M = some o) (hP : ∀ y, o = .inl y → V X 0 0 Q 14 [some (vr (xG X) th), some (vi x1), some (vi y.1), some (vi y.2.1), none] [] y.2.2) (hE : ∀ z, o = .inr (.inl z) → V X 0 0 Q 90 [none, none, none, none, none] [] z) (hR : ∀ q, o = .inr (.inr q) → Q = Qn X none q) : V X 0 0 Q 14 [some (vr (xG X) th), some (vi x1), some (vi x2), some (vi x3), none] [] M := by
  unfold s_X6_findLargestGap_14 at h
  refine x_iloadn hX dX6_findLargestGap_14 rfl ?_
  refine x_aloadn hX dX6_findLargestGap_15 rfl ?_
  refine x_getI hX dX6_findLargestGap_16 fl_X6_55 rfl h0 ?_
  refine x_icmp_gt (tgt := 90) hX dX6_findLargestGap_19 (by decide) rfl rfl (fun hc => ?_) (fun hc => ?_)
  · replace h := (if_pos hc).symm.trans h
    exact x_weak [false, false, false, false, false] rfl (hE M (Option.some.inj h).symm)
  · replace h := (if_neg hc).symm.trans h
    refine x_iloadn hX dX6_findLargestGap_22 rfl ?_
    refine x_aloadn hX dX6_findLargestGap_23 rfl ?_
    refine x_getI hX dX6_findLargestGap_24 fl_X6_55 rfl h0 ?_
    refine x_icmp_eq (tgt := 43) hX dX6_findLargestGap_27 (by decide) rfl rfl (fun hc => ?_) (fun hc => ?_)
    · replace h := (if_pos hc).symm.trans h
      exact x_weak [true, true, true, true, false] rfl (tj_X6_findLargestGap_43_14 hX h0 x1 x2 x3 M o h hP hE hR)
    · replace h := (if_neg hc).symm.trans h
      refine x_aloadn hX dX6_findLargestGap_30 rfl ?_
      refine x_getRj (j := th + 1) hX dX6_findLargestGap_31 fl_X6_9 rfl h0 rfl ?_
      refine x_iloadn hX dX6_findLargestGap_34 rfl ?_
      obtain ⟨b_6, h⟩ := gi_of h
      refine x_iald hX dX6_findLargestGap_35 (fo_6_2 (gk hX) h0) b_6 rfl ?_
      refine x_iloadn hX dX6_findLargestGap_36 rfl ?_
      refine x_ishr hX dX6_findLargestGap_37 ?_
      refine x_iconst hX dX6_findLargestGap_38 ?_
      refine x_iand hX dX6_findLargestGap_39 ?_
      refine x_if_eq (tgt := 47) hX dX6_findLargestGap_40 (by decide) rfl (fun hc => ?_) (fun hc => ?_)
      · replace h := (if_pos hc).symm.trans h
        refine x_iconst hX dX6_findLargestGap_47 ?_
        exact x_weak [true, true, true, true, false] rfl (tj_X6_findLargestGap_48_14 hX h0 x1 x2 x3 0 M o h hP hE hR)
      · replace h := (if_neg hc).symm.trans h
        exact x_weak [true, true, true, true, false] rfl (tj_X6_findLargestGap_43_14 hX h0 x1 x2 x3 M o h hP hE hR)
set_option maxRecDepth 100000 in
set_option maxHeartbeats 4000000 in
theorem c_X6_findLargestGap {l : Launch} {G : Gx} (hG : GOK G) (hl : l.stackTraces = false) {th : Nat} (h0 : at_ G th 16 0) (x1 : Int) (M : Mem) (Mr : Mem) (h : f_X6_findLargestGap th x1 M = some Mr) : Cn l G mX6_findLargestGap 1 [vr G th, vi x1] M none Mr := by
  refine Cn_of2 (ls := [some (vr G th), some (vi x1), none, none, none]) hG hl kX6_findLargestGap rfl (Nat.le_of_ble_eq_true rfl) rfl rfl rfl rfl rfl (fun X eG el hX => ?_)
  subst eG; subst el
  unfold f_X6_findLargestGap at h
  refine x_aloadn hX dX6_findLargestGap_0 rfl ?_
  refine x_iconst hX dX6_findLargestGap_1 ?_
  obtain ⟨M_1, eM_1, h⟩ := bnd_of h
  refine x_putI hX dX6_findLargestGap_2 fp_X6_133 rfl h0 (x_meq eM_1 ?_)
  refine x_aloadn hX dX6_findLargestGap_5 rfl ?_
  refine x_iconst hX dX6_findLargestGap_6 ?_
  obtain ⟨M_2, eM_2, h⟩ := bnd_of h
  refine x_putI hX dX6_findLargestGap_7 fp_X6_130 rfl h0 (x_meq eM_2 ?_)
  refine x_iconst hX dX6_findLargestGap_10 ?_
  refine x_istoren (ls' := [some (vr (xG X) th), some (vi x1), some (vi 0), none, none]) hX dX6_findLargestGap_11 rfl rfl rfl ?_
  refine x_iconst hX dX6_findLargestGap_12 ?_
  refine x_istoren (ls' := [some (vr (xG X) th), some (vi x1), some (vi 0), some (vi 1), none]) hX dX6_findLargestGap_13 rfl rfl rfl ?_
  refine x_weak (ls' := [some (vr (xG X) th), some (vi x1), some (vi 0), some (vi 1), none]) [true, true, true, true, false] rfl ?_
  refine lp_use (x := (0, 1, M_2)) (P := fun x => V X 0 0 (Qn X none Mr) 14 [some (vr (xG X) th), some (vi x1), some (vi x.1), some (vi x.2.1), none] [] x.2.2) (PE := fun z_7 => V X 0 0 (Qn X none Mr) 90 [none, none, none, none, none] [] z_7) (PR := fun q => (Qn X none Mr) = Qn X none q) h (fun x o hh hP hE hR => ts_X6_findLargestGap_14 hX h0 x1 x.1 x.2.1 x.2.2 o hh hP hE hR) (fun z_7 h => ?_) (fun q h => ?_)
  · show V X 0 0 (Qn X none Mr) 90 [none, none, none, none, none] [] z_7
    cases h
    exact x_vret hX dX6_findLargestGap_90 rfl
  · cases h; rfl
set_option maxRecDepth 100000 in
set_option maxHeartbeats 4000000 in
theorem c_X6_stayingCost {l : Launch} {G : Gx} (hG : GOK G) (hl : l.stackTraces = false) {th : Nat} (h0 : at_ G th 16 0) (x1 : Int) (x2 : Int) (M : Mem) (r : Int) (h : f_X6_stayingCost th x1 x2 M = some r) : Cn l G mX6_stayingCost 1 [vr G th, vi x1, vi x2] M (some (vi r)) M := by
  refine Cn_of2 (ls := [some (vr G th), some (vi x1), some (vi x2), none]) hG hl kX6_stayingCost rfl (Nat.le_of_ble_eq_true rfl) rfl rfl rfl rfl rfl (fun X eG el hX => ?_)
  subst eG; subst el
  unfold f_X6_stayingCost at h
  refine x_aloadn hX dX6_stayingCost_0 rfl ?_
  refine x_getRj (j := th + 5) hX dX6_stayingCost_1 fl_X6_24 rfl h0 rfl ?_
  refine x_iloadn hX dX6_stayingCost_4 rfl ?_
  obtain ⟨b_1, h⟩ := gi_of h
  refine x_iald hX dX6_stayingCost_5 (fo_6_7 (gk hX) h0) b_1 rfl ?_
  obtain ⟨x3_2, ex3_2, h⟩ := bnd_of h
  refine x_istoren (ls' := [some (vr (xG X) th), some (vi x1), some (vi x2), some (vi x3_2)]) hX dX6_stayingCost_6 rfl ex3_2 rfl ?_
  refine x_iloadn hX dX6_stayingCost_7 rfl ?_
  refine x_if_ne (tgt := 29) hX dX6_stayingCost_8 (by decide) rfl (fun hc => ?_) (fun hc => ?_)
  · replace h := (if_pos hc).symm.trans h
    refine x_iconst hX dX6_stayingCost_11 ?_
    refine x_aloadn hX dX6_stayingCost_12 rfl ?_
    refine x_getRj (j := th + 3) hX dX6_stayingCost_13 fl_X6_18 rfl h0 rfl ?_
    refine x_iloadn hX dX6_stayingCost_16 rfl ?_
    obtain ⟨b_3, h⟩ := gi_of h
    refine x_iald hX dX6_stayingCost_17 (fo_6_4 (gk hX) h0) b_3 rfl ?_
    refine x_imul hX dX6_stayingCost_18 ?_
    refine x_aloadn hX dX6_stayingCost_19 rfl ?_
    refine x_getRj (j := th + 6) hX dX6_stayingCost_20 fl_X6_27 rfl h0 rfl ?_
    refine x_iloadn hX dX6_stayingCost_23 rfl ?_
    refine x_iconst hX dX6_stayingCost_24 ?_
    refine x_iadd hX dX6_stayingCost_25 ?_
    obtain ⟨b_4, h⟩ := gi_of h
    refine x_iald hX dX6_stayingCost_26 (fo_6_10 (gk hX) h0) b_4 rfl ?_
    refine x_iadd hX dX6_stayingCost_27 ?_
    cases h
    exact x_iret hX dX6_stayingCost_28 rfl
  · replace h := (if_neg hc).symm.trans h
    refine x_iconst hX dX6_stayingCost_29 ?_
    refine x_aloadn hX dX6_stayingCost_30 rfl ?_
    refine x_getI hX dX6_stayingCost_31 fl_X6_55 rfl h0 ?_
    refine x_aloadn hX dX6_stayingCost_34 rfl ?_
    refine x_getRj (j := th + 2) hX dX6_stayingCost_35 fl_X6_15 rfl h0 rfl ?_
    refine x_iloadn hX dX6_stayingCost_38 rfl ?_
    obtain ⟨b_5, h⟩ := gi_of h
    refine x_iald hX dX6_stayingCost_39 (fo_6_3 (gk hX) h0) b_5 rfl ?_
    refine x_isub hX dX6_stayingCost_40 ?_
    refine x_imul hX dX6_stayingCost_41 ?_
    refine x_aloadn hX dX6_stayingCost_42 rfl ?_
    refine x_getRj (j := th + 7) hX dX6_stayingCost_43 fl_X6_30 rfl h0 rfl ?_
    refine x_iloadn hX dX6_stayingCost_46 rfl ?_
    refine x_iconst hX dX6_stayingCost_47 ?_
    refine x_iadd hX dX6_stayingCost_48 ?_
    obtain ⟨b_6, h⟩ := gi_of h
    refine x_iald hX dX6_stayingCost_49 (fo_6_11 (gk hX) h0) b_6 rfl ?_
    refine x_iadd hX dX6_stayingCost_50 ?_
    cases h
    exact x_iret hX dX6_stayingCost_51 rfl
set_option maxRecDepth 100000 in
set_option maxHeartbeats 4000000 in
theorem tj_X6_crossingCost_27 {X : Cxt} (hX : Gd X RX6 cX6_crossingCost 3 (some .int) 1) {th : Nat} (h0 : at_ (xG X) th 16 0)  (y0 : Int) (y1 : Int) (M : Mem) (r : Int) (h : j_X6_crossingCost_27 th y0 y1 M = some r) : V X 0 0 (Qn X (some (vi r)) M) 27 [none, none, none] [vi y1, vi y0] M := by
  unfold j_X6_crossingCost_27 at h
  refine x_iadd hX dX6_crossingCost_27 ?_
  cases h
  exact x_iret hX dX6_crossingCost_28 rfl
set_option maxRecDepth 100000 in
set_option maxHeartbeats 4000000 in
theorem c_X6_crossingCost {l : Launch} {G : Gx} (hG : GOK G) (hl : l.stackTraces = false) {th : Nat} (h0 : at_ G th 16 0) (x1 : Int) (x2 : Int) (M : Mem) (r : Int) (h : f_X6_crossingCost th x1 x2 M = some r) : Cn l G mX6_crossingCost 1 [vr G th, vi x1, vi x2] M (some (vi r)) M := by
  refine Cn_of2 (ls := [some (vr G th), some (vi x1), some (vi x2)]) hG hl kX6_crossingCost rfl (Nat.le_of_ble_eq_true rfl) rfl rfl rfl rfl rfl (fun X eG el hX => ?_)
  subst eG; subst el
  unfold f_X6_crossingCost at h
  refine x_aloadn hX dX6_crossingCost_0 rfl ?_
  refine x_getI hX dX6_crossingCost_1 fl_X6_55 rfl h0 ?_
  refine x_iloadn hX dX6_crossingCost_4 rfl ?_
  refine x_if_ne (tgt := 19) hX dX6_crossingCost_5 (by decide) rfl (fun hc => ?_) (fun hc => ?_)
  · replace h := (if_pos hc).symm.trans h
    refine x_aloadn hX dX6_crossingCost_8 rfl ?_
    refine x_getRj (j := th + 7) hX dX6_crossingCost_9 fl_X6_30 rfl h0 rfl ?_
    refine x_iloadn hX dX6_crossingCost_12 rfl ?_
    refine x_iconst hX dX6_crossingCost_13 ?_
    refine x_iadd hX dX6_crossingCost_14 ?_
    obtain ⟨b_1, h⟩ := gi_of h
    refine x_iald hX dX6_crossingCost_15 (fo_6_11 (gk hX) h0) b_1 rfl ?_
    refine x_goto (tgt := 27) hX dX6_crossingCost_16 (by decide) ?_
    exact x_weak [false, false, false] rfl (tj_X6_crossingCost_27 hX h0 (M th 1) (M (th + 7) (ix (x1 + 1))) M r h)
  · replace h := (if_neg hc).symm.trans h
    refine x_aloadn hX dX6_crossingCost_19 rfl ?_
    refine x_getRj (j := th + 6) hX dX6_crossingCost_20 fl_X6_27 rfl h0 rfl ?_
    refine x_iloadn hX dX6_crossingCost_23 rfl ?_
    refine x_iconst hX dX6_crossingCost_24 ?_
    refine x_iadd hX dX6_crossingCost_25 ?_
    obtain ⟨b_2, h⟩ := gi_of h
    refine x_iald hX dX6_crossingCost_26 (fo_6_10 (gk hX) h0) b_2 rfl ?_
    exact x_weak [false, false, false] rfl (tj_X6_crossingCost_27 hX h0 (M th 1) (M (th + 6) (ix (x1 + 1))) M r h)
set_option maxRecDepth 100000 in
set_option maxHeartbeats 4000000 in
theorem tj_X6_visitPlace_111_23 {X : Cxt} (hX : Gd X RX6 cX6_visitPlace 7 (none) 1) {th : Nat} (h0 : at_ (xG X) th 16 0) {a1 : Nat} (h1 : at_ (xG X) a1 11 0)  (x2 : Int) (x3 : Int) (x5 : Int) (M : Mem) {Q : State → Prop} (o : (Int × Mem) ⊕ ((Mem) ⊕ (Mem))) (h : j_X6_visitPlace_111_23 th a1 x2 x3 x5 M = some o) (hP : ∀ y, o = .inl y → V X 0 0 Q 23 [some (vr (xG X) th), none, some (vi x2), some (vi x3), some (vr (xG X) (a1 + 4)), some (vi y.1), none] [] y.2) (hE : ∀ z, o = .inr (.inl z) → V X 0 0 Q 117 [none, none, none, none, none, none, none] [] z) (hR : ∀ q, o = .inr (.inr q) → Q = Qn X none q) : V X 0 0 Q 111 [some (vr (xG X) th), none, some (vi x2), some (vi x3), some (vr (xG X) (a1 + 4)), some (vi x5), none] [] M := by
  unfold j_X6_visitPlace_111_23 at h
  obtain ⟨x5_2, ex5_2, h⟩ := bnd_of h
  refine x_iinc (ls' := [some (vr (xG X) th), none, some (vi x2), some (vi x3), some (vr (xG X) (a1 + 4)), some (vi x5_2), none]) hX dX6_visitPlace_111 rfl rfl ex5_2 rfl ?_
  refine x_goto (tgt := 23) hX dX6_visitPlace_114 (by decide) ?_
  exact x_weak [true, false, true, true, true, true, false] rfl (hP (x5_2, M) (Option.some.inj h).symm)
set_option maxRecDepth 100000 in
set_option maxHeartbeats 4000000 in
theorem tj_X6_visitPlace_50_23 {X : Cxt} (hX : Gd X RX6 cX6_visitPlace 7 (none) 1) {th : Nat} (h0 : at_ (xG X) th 16 0) {a1 : Nat} (h1 : at_ (xG X) a1 11 0)  (x2 : Int) (x3 : Int) (x5 : Int) (y0 : Int) (M : Mem) {Q : State → Prop} (o : (Int × Mem) ⊕ ((Mem) ⊕ (Mem))) (h : j_X6_visitPlace_50_23 th a1 x2 x3 x5 y0 M = some o) (hP : ∀ y, o = .inl y → V X 0 0 Q 23 [some (vr (xG X) th), none, some (vi x2), some (vi x3), some (vr (xG X) (a1 + 4)), some (vi y.1), none] [] y.2) (hE : ∀ z, o = .inr (.inl z) → V X 0 0 Q 117 [none, none, none, none, none, none, none] [] z) (hR : ∀ q, o = .inr (.inr q) → Q = Qn X none q) : V X 0 0 Q 50 [some (vr (xG X) th), none, some (vi x2), some (vi x3), some (vr (xG X) (a1 + 4)), some (vi x5), none] [vi y0] M := by
  unfold j_X6_visitPlace_50_23 at h
  refine x_istore (ls' := [some (vr (xG X) th), none, some (vi x2), some (vi x3), some (vr (xG X) (a1 + 4)), some (vi x5), some (vi y0)]) hX dX6_visitPlace_50 rfl rfl rfl ?_
  refine x_iload hX dX6_visitPlace_52 rfl ?_
  refine x_if_eq (tgt := 111) hX dX6_visitPlace_54 (by decide) rfl (fun hc => ?_) (fun hc => ?_)
  · replace h := (if_pos hc).symm.trans h
    exact x_weak [true, false, true, true, true, true, false] rfl (tj_X6_visitPlace_111_23 hX h0 h1 x2 x3 x5 M o h hP hE hR)
  · replace h := (if_neg hc).symm.trans h
    refine x_aload hX dX6_visitPlace_57 rfl ?_
    refine x_getRj (j := a1 + 4 + 1) hX dX6_visitPlace_59 fl_X6_67 rfl (fo_1_1 (gk hX) h1) rfl ?_
    refine x_iload hX dX6_visitPlace_62 rfl ?_
    obtain ⟨b_3, h⟩ := gi_of h
    refine x_iald hX dX6_visitPlace_64 (fo_2_1 (gk hX) (fo_1_1 (gk hX) h1)) b_3 rfl ?_
    refine x_iloadn hX dX6_visitPlace_65 rfl ?_
    refine x_icmp_ne (tgt := 111) hX dX6_visitPlace_66 (by decide) rfl rfl (fun hc => ?_) (fun hc => ?_)
    · replace h := (if_pos hc).symm.trans h
      refine x_aload hX dX6_visitPlace_69 rfl ?_
      refine x_getRj (j := a1 + 4 + 2) hX dX6_visitPlace_71 fl_X6_70 rfl (fo_1_1 (gk hX) h1) rfl ?_
      refine x_iload hX dX6_visitPlace_74 rfl ?_
      obtain ⟨b_4, h⟩ := gi_of h
      refine x_iald hX dX6_visitPlace_76 (fo_2_2 (gk hX) (fo_1_1 (gk hX) h1)) b_4 rfl ?_
      refine x_iloadn hX dX6_visitPlace_77 rfl ?_
      refine x_icmp_ne (tgt := 111) hX dX6_visitPlace_78 (by decide) rfl rfl (fun hc => ?_) (fun hc => ?_)
      · replace h := (if_pos hc).symm.trans h
        refine x_aloadn hX dX6_visitPlace_81 rfl ?_
        refine x_getI hX dX6_visitPlace_82 fl_X6_143 rfl h0 ?_
        refine x_bipush hX dX6_visitPlace_85 bp_24 ?_
        refine x_icmp_ge (tgt := 111) hX dX6_visitPlace_87 (by decide) rfl cw_24 (fun hc => ?_) (fun hc => ?_)
        · replace h := (if_pos hc).symm.trans h
          refine x_aloadn hX dX6_visitPlace_90 rfl ?_
          refine x_getRj (j := th + 8) hX dX6_visitPlace_91 fl_X6_33 rfl h0 rfl ?_
          refine x_aloadn hX dX6_visitPlace_94 rfl ?_
          refine x_getI hX dX6_visitPlace_95 fl_X6_143 rfl h0 ?_
          refine x_iload hX dX6_visitPlace_98 rfl ?_
          obtain ⟨b_6, h⟩ := gi_of h
          obtain ⟨M_5, eM_5, h⟩ := bnd_of h
          refine x_iast hX dX6_visitPlace_100 (fo_6_13 (gk hX) h0) b_6 rfl (x_meq eM_5 ?_)
          refine x_aloadn hX dX6_visitPlace_101 rfl ?_
          refine x_dup hX dX6_visitPlace_102 rfl ?_
          refine x_getI hX dX6_visitPlace_103 fl_X6_143 rfl h0 ?_
          refine x_iconst hX dX6_visitPlace_106 ?_
          refine x_iadd hX dX6_visitPlace_107 ?_
          obtain ⟨M_7, eM_7, h⟩ := bnd_of h
          refine x_putI hX dX6_visitPlace_108 fp_X6_143 rfl h0 (x_meq eM_7 ?_)
          exact x_weak [true, false, true, true, true, true, false] rfl (tj_X6_visitPlace_111_23 hX h0 h1 x2 x3 x5 M_7 o h hP hE hR)
        · replace h := (if_neg hc).symm.trans h
          exact x_weak [true, false, true, true, true, true, false] rfl (tj_X6_visitPlace_111_23 hX h0 h1 x2 x3 x5 M o h hP hE hR)
      · replace h := (if_neg hc).symm.trans h
        exact x_weak [true, false, true, true, true, true, false] rfl (tj_X6_visitPlace_111_23 hX h0 h1 x2 x3 x5 M o h hP hE hR)
    · replace h := (if_neg hc).symm.trans h
      exact x_weak [true, false, true, true, true, true, false] rfl (tj_X6_visitPlace_111_23 hX h0 h1 x2 x3 x5 M o h hP hE hR)
set_option maxRecDepth 100000 in
set_option maxHeartbeats 4000000 in
theorem ts_X6_visitPlace_23 {X : Cxt} (hX : Gd X RX6 cX6_visitPlace 7 (none) 1) {th : Nat} (h0 : at_ (xG X) th 16 0) {a1 : Nat} (h1 : at_ (xG X) a1 11 0) (x2 : Int) (x3 : Int) (x5 : Int) (M : Mem) {Q : State → Prop} (o : (Int × Mem) ⊕ ((Mem) ⊕ (Mem))) (h : s_X6_visitPlace_23 th a1 x2 x3 x5 M = some o) (hP : ∀ y, o = .inl y → V X 0 0 Q 23 [some (vr (xG X) th), none, some (vi x2), some (vi x3), some (vr (xG X) (a1 + 4)), some (vi y.1), none] [] y.2) (hE : ∀ z, o = .inr (.inl z) → V X 0 0 Q 117 [none, none, none, none, none, none, none] [] z) (hR : ∀ q, o = .inr (.inr q) → Q = Qn X none q) : V X 0 0 Q 23 [some (vr (xG X) th), none, some (vi x2), some (vi x3), some (vr (xG X) (a1 + 4)), some (vi x5), none] [] M := by
  unfold s_X6_visitPlace_23 at h
  refine x_iload hX dX6_visitPlace_23 rfl ?_
  refine x_aload hX dX6_visitPlace_25 rfl ?_
  refine x_getI hX dX6_visitPlace_27 fl_X6_62 rfl (fo_1_1 (gk hX) h1) ?_
  refine x_icmp_ge (tgt := 117) hX dX6_visitPlace_30 (by decide) rfl rfl (fun hc => ?_) (fun hc => ?_)
  · replace h := (if_pos hc).symm.trans h
    refine x_aloadn hX dX6_visitPlace_33 rfl ?_
    refine x_getI hX dX6_visitPlace_34 fl_X6_42 rfl h0 ?_
    refine x_iload hX dX6_visitPlace_37 rfl ?_
    refine x_ishr hX dX6_visitPlace_39 ?_
    refine x_iconst hX dX6_visitPlace_40 ?_
    refine x_iand hX dX6_visitPlace_41 ?_
    refine x_if_eq (tgt := 49) hX dX6_visitPlace_42 (by decide) rfl (fun hc => ?_) (fun hc => ?_)
    · replace h := (if_pos hc).symm.trans h
      refine x_iconst hX dX6_visitPlace_49 ?_
      exact x_weak [true, false, true, true, true, true, false] rfl (tj_X6_visitPlace_50_23 hX h0 h1 x2 x3 x5 0 M o h hP hE hR)
    · replace h := (if_neg hc).symm.trans h
      refine x_iconst hX dX6_visitPlace_45 ?_
      refine x_goto (tgt := 50) hX dX6_visitPlace_46 (by decide) ?_
      exact x_weak [true, false, true, true, true, true, false] rfl (tj_X6_visitPlace_50_23 hX h0 h1 x2 x3 x5 1 M o h hP hE hR)
  · replace h := (if_neg hc).symm.trans h
    exact x_weak [false, false, false, false, false, false, false] rfl (hE M (Option.some.inj h).symm)
set_option maxRecDepth 100000 in
set_option maxHeartbeats 4000000 in
theorem c_X6_visitPlace {l : Launch} {G : Gx} (hG : GOK G) (hl : l.stackTraces = false) {th : Nat} (h0 : at_ G th 16 0) {a1 : Nat} (h1 : at_ G a1 11 0) (x2 : Int) (x3 : Int) (M : Mem) (Mr : Mem) (h : f_X6_visitPlace th a1 x2 x3 M = some Mr) : Cn l G mX6_visitPlace 1 [vr G th, vr G a1, vi x2, vi x3] M none Mr := by
  refine Cn_of2 (ls := [some (vr G th), some (vr G a1), some (vi x2), some (vi x3), none, none, none]) hG hl kX6_visitPlace rfl (Nat.le_of_ble_eq_true rfl) rfl rfl rfl rfl rfl (fun X eG el hX => ?_)
  subst eG; subst el
  unfold f_X6_visitPlace at h
  refine x_aloadn hX dX6_visitPlace_0 rfl ?_
  refine x_getRj (j := th + 1) hX dX6_visitPlace_1 fl_X6_9 rfl h0 rfl ?_
  refine x_iloadn hX dX6_visitPlace_4 rfl ?_
  obtain ⟨b_1, h⟩ := gi_of h
  refine x_iald hX dX6_visitPlace_5 (fo_6_2 (gk hX) h0) b_1 rfl ?_
  refine x_iloadn hX dX6_visitPlace_6 rfl ?_
  refine x_ishr hX dX6_visitPlace_7 ?_
  refine x_iconst hX dX6_visitPlace_8 ?_
  refine x_iand hX dX6_visitPlace_9 ?_
  refine x_if_ne (tgt := 14) hX dX6_visitPlace_10 (by decide) rfl (fun hc => ?_) (fun hc => ?_)
  · replace h := (if_pos hc).symm.trans h
    cases h
    exact x_vret hX dX6_visitPlace_13 rfl
  · replace h := (if_neg hc).symm.trans h
    refine x_aloadn hX dX6_visitPlace_14 rfl ?_
    refine x_getRj (j := a1 + 4) hX dX6_visitPlace_15 fl_X6_58 rfl h1 rfl ?_
    refine x_astore (ls' := [some (vr (xG X) th), some (vr (xG X) a1), some (vi x2), some (vi x3), some (vr (xG X) (a1 + 4)), none, none]) hX dX6_visitPlace_18 rfl rfl ?_
    refine x_iconst hX dX6_visitPlace_20 ?_
    refine x_istore (ls' := [some (vr (xG X) th), some (vr (xG X) a1), some (vi x2), some (vi x3), some (vr (xG X) (a1 + 4)), some (vi 0), none]) hX dX6_visitPlace_21 rfl rfl rfl ?_
    refine x_weak (ls' := [some (vr (xG X) th), none, some (vi x2), some (vi x3), some (vr (xG X) (a1 + 4)), some (vi 0), none]) [true, false, true, true, true, true, false] rfl ?_
    refine lp_use (x := (0, M)) (P := fun x => V X 0 0 (Qn X none Mr) 23 [some (vr (xG X) th), none, some (vi x2), some (vi x3), some (vr (xG X) (a1 + 4)), some (vi x.1), none] [] x.2) (PE := fun z_8 => V X 0 0 (Qn X none Mr) 117 [none, none, none, none, none, none, none] [] z_8) (PR := fun q => (Qn X none Mr) = Qn X none q) h (fun x o hh hP hE hR => ts_X6_visitPlace_23 hX h0 h1 x2 x3 x.1 x.2 o hh hP hE hR) (fun z_8 h => ?_) (fun q h => ?_)
    · show V X 0 0 (Qn X none Mr) 117 [none, none, none, none, none, none, none] [] z_8
      cases h
      exact x_vret hX dX6_visitPlace_117 rfl
    · cases h; rfl
set_option maxRecDepth 100000 in
set_option maxHeartbeats 4000000 in
theorem ts_X7_workInAll_5 {X : Cxt} (hX : Gd X RX7 cX7_workInAll 5 (some .int) 1) {th : Nat} (h0 : at_ (xG X) th 17 0) {a1 : Nat} (h1 : at_ (xG X) a1 13 0) (x2 : Int) (M : Mem) (x3 : Int) (x4 : Int) {Q : State → Prop} (o : (Int × Int) ⊕ ((Int) ⊕ (Int))) (h : s_X7_workInAll_5 th a1 x2 M x3 x4 = some o) (hP : ∀ y, o = .inl y → V X 0 0 Q 5 [some (vr (xG X) th), some (vr (xG X) a1), some (vi x2), some (vi y.1), some (vi y.2)] [] M) (hE : ∀ z, o = .inr (.inl z) → V X 0 0 Q 32 [none, none, none, some (vi z), none] [] M) (hR : ∀ q, o = .inr (.inr q) → Q = Qn X (some (vi q)) M) : V X 0 0 Q 5 [some (vr (xG X) th), some (vr (xG X) a1), some (vi x2), some (vi x3), some (vi x4)] [] M := by
  unfold s_X7_workInAll_5 at h
  refine x_iload hX dX7_workInAll_5 rfl ?_
  refine x_aloadn hX dX7_workInAll_7 rfl ?_
  refine x_getI hX dX7_workInAll_8 fl_X7_53 rfl h1 ?_
  refine x_icmp_ge (tgt := 32) hX dX7_workInAll_11 (by decide) rfl rfl (fun hc => ?_) (fun hc => ?_)
  · replace h := (if_pos hc).symm.trans h
    refine x_iloadn hX dX7_workInAll_14 rfl ?_
    refine x_aloadn hX dX7_workInAll_15 rfl ?_
    refine x_getRj (j := th + 1) hX dX7_workInAll_16 fl_X7_11 rfl h0 rfl ?_
    refine x_iloadn hX dX7_workInAll_19 rfl ?_
    obtain ⟨b_1, h⟩ := gi_of h
    refine x_aald2 hX dX7_workInAll_20 (fo_7_0 (gk hX) h0) b_1 ?_
    refine x_iload hX dX7_workInAll_21 rfl ?_
    obtain ⟨b_2, h⟩ := gi_of h
    refine x_iald hX dX7_workInAll_23 (ro (gk hX) (fo_7_0 (gk hX) h0) b_1) b_2 rfl ?_
    refine x_iadd hX dX7_workInAll_24 ?_
    obtain ⟨x3_3, ex3_3, h⟩ := bnd_of h
    refine x_istoren (ls' := [some (vr (xG X) th), some (vr (xG X) a1), some (vi x2), some (vi x3_3), some (vi x4)]) hX dX7_workInAll_25 rfl ex3_3 rfl ?_
    obtain ⟨x4_4, ex4_4, h⟩ := bnd_of h
    refine x_iinc (ls' := [some (vr (xG X) th), some (vr (xG X) a1), some (vi x2), some (vi x3_3), some (vi x4_4)]) hX dX7_workInAll_26 rfl rfl ex4_4 rfl ?_
    refine x_goto (tgt := 5) hX dX7_workInAll_29 (by decide) ?_
    exact x_weak [true, true, true, true, true] rfl (hP (x3_3, x4_4) (Option.some.inj h).symm)
  · replace h := (if_neg hc).symm.trans h
    exact x_weak [false, false, false, true, false] rfl (hE x3 (Option.some.inj h).symm)
set_option maxRecDepth 100000 in
set_option maxHeartbeats 4000000 in
theorem c_X7_workInAll {l : Launch} {G : Gx} (hG : GOK G) (hl : l.stackTraces = false) {th : Nat} (h0 : at_ G th 17 0) {a1 : Nat} (h1 : at_ G a1 13 0) (x2 : Int) (M : Mem) (r : Int) (h : f_X7_workInAll th a1 x2 M = some r) : Cn l G mX7_workInAll 1 [vr G th, vr G a1, vi x2] M (some (vi r)) M := by
  refine Cn_of2 (ls := [some (vr G th), some (vr G a1), some (vi x2), none, none]) hG hl kX7_workInAll rfl (Nat.le_of_ble_eq_true rfl) rfl rfl rfl rfl rfl (fun X eG el hX => ?_)
  subst eG; subst el
  unfold f_X7_workInAll at h
  refine x_iconst hX dX7_workInAll_0 ?_
  refine x_istoren (ls' := [some (vr (xG X) th), some (vr (xG X) a1), some (vi x2), some (vi 0), none]) hX dX7_workInAll_1 rfl rfl rfl ?_
  refine x_iconst hX dX7_workInAll_2 ?_
  refine x_istore (ls' := [some (vr (xG X) th), some (vr (xG X) a1), some (vi x2), some (vi 0), some (vi 0)]) hX dX7_workInAll_3 rfl rfl rfl ?_
  refine x_weak (ls' := [some (vr (xG X) th), some (vr (xG X) a1), some (vi x2), some (vi 0), some (vi 0)]) [true, true, true, true, true] rfl ?_
  refine lp_use (x := (0, 0)) (P := fun x => V X 0 0 (Qn X (some (vi r)) M) 5 [some (vr (xG X) th), some (vr (xG X) a1), some (vi x2), some (vi x.1), some (vi x.2)] [] M) (PE := fun z_5 => V X 0 0 (Qn X (some (vi r)) M) 32 [none, none, none, some (vi z_5), none] [] M) (PR := fun q => (Qn X (some (vi r)) M) = Qn X (some (vi q)) M) h (fun x o hh hP hE hR => ts_X7_workInAll_5 hX h0 h1 x2 M x.1 x.2 o hh hP hE hR) (fun z_5 h => ?_) (fun q h => ?_)
  · show V X 0 0 (Qn X (some (vi r)) M) 32 [none, none, none, some (vi z_5), none] [] M
    refine x_iloadn hX dX7_workInAll_32 rfl ?_
    cases h
    exact x_iret hX dX7_workInAll_33 rfl
  · cases h; rfl
set_option maxRecDepth 100000 in
set_option maxHeartbeats 4000000 in
theorem c_X7_exitOpens {l : Launch} {G : Gx} (hG : GOK G) (hl : l.stackTraces = false) {th : Nat} (h0 : at_ G th 17 0) {a1 : Nat} (h1 : at_ G a1 13 0) (x2 : Int) (x3 : Int) (M : Mem) (r : Int) (h : f_X7_exitOpens th a1 x2 x3 M = some r) : Cn l G mX7_exitOpens 1 [vr G th, vr G a1, vi x2, vi x3] M (some (vi r)) M := by
  refine Cn_of2 (ls := [some (vr G th), some (vr G a1), some (vi x2), some (vi x3), none]) hG hl kX7_exitOpens rfl (Nat.le_of_ble_eq_true rfl) rfl rfl rfl rfl rfl (fun X eG el hX => ?_)
  subst eG; subst el
  unfold f_X7_exitOpens at h
  refine x_iloadn hX dX7_exitOpens_0 rfl ?_
  refine x_iconst hX dX7_exitOpens_1 ?_
  refine x_iadd hX dX7_exitOpens_2 ?_
  refine x_aloadn hX dX7_exitOpens_3 rfl ?_
  refine x_getI hX dX7_exitOpens_4 fl_X7_53 rfl h1 ?_
  refine x_icmp_lt (tgt := 12) hX dX7_exitOpens_7 (by decide) rfl rfl (fun hc => ?_) (fun hc => ?_)
  · replace h := (if_pos hc).symm.trans h
    refine x_aloadn hX dX7_exitOpens_12 rfl ?_
    refine x_getRj (j := a1 + 2) hX dX7_exitOpens_13 fl_X7_92 rfl h1 rfl ?_
    refine x_iloadn hX dX7_exitOpens_16 rfl ?_
    obtain ⟨b_1, h⟩ := gi_of h
    refine x_iald hX dX7_exitOpens_17 (fo_3_8 (gk hX) h1) b_1 rfl ?_
    obtain ⟨x4_2, ex4_2, h⟩ := bnd_of h
    refine x_istore (ls' := [some (vr (xG X) th), some (vr (xG X) a1), some (vi x2), some (vi x3), some (vi x4_2)]) hX dX7_exitOpens_18 rfl ex4_2 rfl ?_
    refine x_iload hX dX7_exitOpens_20 rfl ?_
    refine x_if_ne (tgt := 46) hX dX7_exitOpens_22 (by decide) rfl (fun hc => ?_) (fun hc => ?_)
    · replace h := (if_pos hc).symm.trans h
      refine x_iloadn hX dX7_exitOpens_25 rfl ?_
      refine x_if_ne (tgt := 33) hX dX7_exitOpens_26 (by decide) rfl (fun hc => ?_) (fun hc => ?_)
      · replace h := (if_pos hc).symm.trans h
        refine x_iconst hX dX7_exitOpens_29 ?_
        refine x_goto (tgt := 45) hX dX7_exitOpens_30 (by decide) ?_
        cases h
        exact x_iret hX dX7_exitOpens_45 rfl
      · replace h := (if_neg hc).symm.trans h
        refine x_aloadn hX dX7_exitOpens_33 rfl ?_
        refine x_getRj (j := th + 19) hX dX7_exitOpens_34 fl_X7_19 rfl h0 rfl ?_
        refine x_iloadn hX dX7_exitOpens_37 rfl ?_
        refine x_iconst hX dX7_exitOpens_38 ?_
        refine x_isub hX dX7_exitOpens_39 ?_
        obtain ⟨b_3, h⟩ := gi_of h
        refine x_aald2 hX dX7_exitOpens_40 (fo_7_2 (gk hX) h0) b_3 ?_
        refine x_iloadn hX dX7_exitOpens_41 rfl ?_
        refine x_iconst hX dX7_exitOpens_42 ?_
        refine x_iadd hX dX7_exitOpens_43 ?_
        obtain ⟨b_4, h⟩ := gi_of h
        refine x_iald hX dX7_exitOpens_44 (ro (gk hX) (fo_7_2 (gk hX) h0) b_3) b_4 rfl ?_
        cases h
        exact x_iret hX dX7_exitOpens_45 rfl
    · replace h := (if_neg hc).symm.trans h
      refine x_iloadn hX dX7_exitOpens_46 rfl ?_
      refine x_iload hX dX7_exitOpens_47 rfl ?_
      refine x_icmp_ge (tgt := 56) hX dX7_exitOpens_49 (by decide) rfl rfl (fun hc => ?_) (fun hc => ?_)
      · replace h := (if_pos hc).symm.trans h
        refine x_iconst hX dX7_exitOpens_52 ?_
        refine x_goto (tgt := 69) hX dX7_exitOpens_53 (by decide) ?_
        cases h
        exact x_iret hX dX7_exitOpens_69 rfl
      · replace h := (if_neg hc).symm.trans h
        refine x_aloadn hX dX7_exitOpens_56 rfl ?_
        refine x_getRj (j := th + 10) hX dX7_exitOpens_57 fl_X7_16 rfl h0 rfl ?_
        refine x_iloadn hX dX7_exitOpens_60 rfl ?_
        refine x_iload hX dX7_exitOpens_61 rfl ?_
        refine x_isub hX dX7_exitOpens_63 ?_
        obtain ⟨b_5, h⟩ := gi_of h
        refine x_aald2 hX dX7_exitOpens_64 (fo_7_1 (gk hX) h0) b_5 ?_
        refine x_iloadn hX dX7_exitOpens_65 rfl ?_
        refine x_iconst hX dX7_exitOpens_66 ?_
        refine x_iadd hX dX7_exitOpens_67 ?_
        obtain ⟨b_6, h⟩ := gi_of h
        refine x_iald hX dX7_exitOpens_68 (ro (gk hX) (fo_7_1 (gk hX) h0) b_5) b_6 rfl ?_
        cases h
        exact x_iret hX dX7_exitOpens_69 rfl
  · replace h := (if_neg hc).symm.trans h
    refine x_iconst hX dX7_exitOpens_10 ?_
    cases h
    exact x_iret hX dX7_exitOpens_11 rfl
set_option maxRecDepth 100000 in
set_option maxHeartbeats 4000000 in
theorem c_X7_completion {l : Launch} {G : Gx} (hG : GOK G) (hl : l.stackTraces = false) {th : Nat} (h0 : at_ G th 17 0) {a1 : Nat} (h1 : at_ G a1 13 0) (x2 : Int) (M : Mem) (r : Int) (h : f_X7_completion th a1 x2 M = some r) : Cn l G mX7_completion 1 [vr G th, vr G a1, vi x2] M (some (vi r)) M := by
  refine Cn_of2 (ls := [some (vr G th), some (vr G a1), some (vi x2)]) hG hl kX7_completion rfl (Nat.le_of_ble_eq_true rfl) rfl rfl rfl rfl rfl (fun X eG el hX => ?_)
  subst eG; subst el
  unfold f_X7_completion at h
  refine x_aloadn hX dX7_completion_0 rfl ?_
  refine x_getRj (j := th + 19) hX dX7_completion_1 fl_X7_19 rfl h0 rfl ?_
  refine x_iloadn hX dX7_completion_4 rfl ?_
  obtain ⟨b_1, h⟩ := gi_of h
  refine x_aald2 hX dX7_completion_5 (fo_7_2 (gk hX) h0) b_1 ?_
  refine x_aloadn hX dX7_completion_6 rfl ?_
  refine x_getI hX dX7_completion_7 fl_X7_53 rfl h1 ?_
  refine x_iconst hX dX7_completion_10 ?_
  refine x_isub hX dX7_completion_11 ?_
  obtain ⟨b_2, h⟩ := gi_of h
  refine x_iald hX dX7_completion_12 (ro (gk hX) (fo_7_2 (gk hX) h0) b_1) b_2 rfl ?_
  cases h
  exact x_iret hX dX7_completion_13 rfl
set_option maxRecDepth 100000 in
set_option maxHeartbeats 4000000 in
theorem ts_X9_sortByKeys_9 {X : Cxt} (hX : Gd X RX9 cX9_sortByKeys 4 (none) 1) (hs : SOK (xG X))  (x1 : Int) (x2 : Int) (x3 : Int) (M : Mem) {Q : State → Prop} (o : (Int × Mem) ⊕ ((Int × Mem) ⊕ (Mem))) (h : s_X9_sortByKeys_9 x1 x2 x3 M = some o) (hP : ∀ y, o = .inl y → V X 0 0 Q 9 [some (vr (xG X) 97), some (vi x1), some (vi x2), some (vi y.1)] [] y.2) (hE : ∀ z, o = .inr (.inl z) → V X 0 0 Q 55 [some (vr (xG X) 97), some (vi x1), some (vi x2), some (vi z.1)] [] z.2) (hR : ∀ q, o = .inr (.inr q) → Q = Qn X none q) : V X 0 0 Q 9 [some (vr (xG X) 97), some (vi x1), some (vi x2), some (vi x3)] [] M := by
  unfold s_X9_sortByKeys_9 at h
  refine x_iloadn hX dX9_sortByKeys_9 rfl ?_
  refine x_if_le (tgt := 55) hX dX9_sortByKeys_10 (by decide) rfl (fun hc => ?_) (fun hc => ?_)
  · replace h := (if_pos hc).symm.trans h
    refine x_aloadn hX dX9_sortByKeys_13 rfl ?_
    refine x_getRj (j := 135) hX dX9_sortByKeys_14 fl_X9_18 rfl (st97 hs) rfl ?_
    refine x_aloadn hX dX9_sortByKeys_17 rfl ?_
    refine x_getRj (j := 137) hX dX9_sortByKeys_18 fl_X9_25 rfl (st97 hs) rfl ?_
    refine x_iloadn hX dX9_sortByKeys_21 rfl ?_
    refine x_iconst hX dX9_sortByKeys_22 ?_
    refine x_isub hX dX9_sortByKeys_23 ?_
    obtain ⟨b_1, h⟩ := gi_of h
    refine x_iald hX dX9_sortByKeys_24 (st137 hs) b_1 rfl ?_
    obtain ⟨b_2, h⟩ := gi_of h
    refine x_iald hX dX9_sortByKeys_25 (st135 hs) b_2 rfl ?_
    refine x_aloadn hX dX9_sortByKeys_26 rfl ?_
    refine x_getRj (j := 135) hX dX9_sortByKeys_27 fl_X9_18 rfl (st97 hs) rfl ?_
    refine x_iloadn hX dX9_sortByKeys_30 rfl ?_
    obtain ⟨b_3, h⟩ := gi_of h
    refine x_iald hX dX9_sortByKeys_31 (st135 hs) b_3 rfl ?_
    refine x_icmp_le (tgt := 55) hX dX9_sortByKeys_32 (by decide) rfl rfl (fun hc => ?_) (fun hc => ?_)
    · replace h := (if_pos hc).symm.trans h
      refine x_aloadn hX dX9_sortByKeys_35 rfl ?_
      refine x_getRj (j := 137) hX dX9_sortByKeys_36 fl_X9_25 rfl (st97 hs) rfl ?_
      refine x_iloadn hX dX9_sortByKeys_39 rfl ?_
      refine x_aloadn hX dX9_sortByKeys_40 rfl ?_
      refine x_getRj (j := 137) hX dX9_sortByKeys_41 fl_X9_25 rfl (st97 hs) rfl ?_
      refine x_iloadn hX dX9_sortByKeys_44 rfl ?_
      refine x_iconst hX dX9_sortByKeys_45 ?_
      refine x_isub hX dX9_sortByKeys_46 ?_
      obtain ⟨b_4, h⟩ := gi_of h
      refine x_iald hX dX9_sortByKeys_47 (st137 hs) b_4 rfl ?_
      obtain ⟨b_6, h⟩ := gi_of h
      obtain ⟨M_5, eM_5, h⟩ := bnd_of h
      refine x_iast hX dX9_sortByKeys_48 (st137 hs) b_6 rfl (x_meq eM_5 ?_)
      obtain ⟨x3_7, ex3_7, h⟩ := bnd_of h
      refine x_iinc (ls' := [some (vr (xG X) 97), some (vi x1), some (vi x2), some (vi x3_7)]) hX dX9_sortByKeys_49 rfl rfl ex3_7 rfl ?_
      refine x_goto (tgt := 9) hX dX9_sortByKeys_52 (by decide) ?_
      exact x_weak [true, true, true, true] rfl (hP (x3_7, M_5) (Option.some.inj h).symm)
    · replace h := (if_neg hc).symm.trans h
      exact x_weak [true, true, true, true] rfl (hE (x3, M) (Option.some.inj h).symm)
  · replace h := (if_neg hc).symm.trans h
    exact x_weak [true, true, true, true] rfl (hE (x3, M) (Option.some.inj h).symm)
set_option maxRecDepth 100000 in
set_option maxHeartbeats 4000000 in
theorem tj_X9_sortByKeys_55_2 {X : Cxt} (hX : Gd X RX9 cX9_sortByKeys 4 (none) 1) (hs : SOK (xG X))   (x1 : Int) (x2 : Int) (x3 : Int) (M : Mem) {Q : State → Prop} (o : (Int × Mem) ⊕ ((Mem) ⊕ (Mem))) (h : j_X9_sortByKeys_55_2 x1 x2 x3 M = some o) (hP : ∀ y, o = .inl y → V X 0 0 Q 2 [some (vr (xG X) 97), some (vi x1), some (vi y.1), none] [] y.2) (hE : ∀ z, o = .inr (.inl z) → V X 0 0 Q 68 [none, none, none, none] [] z) (hR : ∀ q, o = .inr (.inr q) → Q = Qn X none q) : V X 0 0 Q 55 [some (vr (xG X) 97), some (vi x1), some (vi x2), some (vi x3)] [] M := by
  unfold j_X9_sortByKeys_55_2 at h
  refine x_aloadn hX dX9_sortByKeys_55 rfl ?_
  refine x_getRj (j := 137) hX dX9_sortByKeys_56 fl_X9_25 rfl (st97 hs) rfl ?_
  refine x_iloadn hX dX9_sortByKeys_59 rfl ?_
  refine x_iloadn hX dX9_sortByKeys_60 rfl ?_
  obtain ⟨b_10, h⟩ := gi_of h
  obtain ⟨M_9, eM_9, h⟩ := bnd_of h
  refine x_iast hX dX9_sortByKeys_61 (st137 hs) b_10 rfl (x_meq eM_9 ?_)
  obtain ⟨x2_11, ex2_11, h⟩ := bnd_of h
  refine x_iinc (ls' := [some (vr (xG X) 97), some (vi x1), some (vi x2_11), some (vi x3)]) hX dX9_sortByKeys_62 rfl rfl ex2_11 rfl ?_
  refine x_goto (tgt := 2) hX dX9_sortByKeys_65 (by decide) ?_
  exact x_weak [true, true, true, false] rfl (hP (x2_11, M_9) (Option.some.inj h).symm)
set_option maxRecDepth 100000 in
set_option maxHeartbeats 4000000 in
theorem ts_X9_sortByKeys_2 {X : Cxt} (hX : Gd X RX9 cX9_sortByKeys 4 (none) 1) (hs : SOK (xG X))  (x1 : Int) (x2 : Int) (M : Mem) {Q : State → Prop} (o : (Int × Mem) ⊕ ((Mem) ⊕ (Mem))) (h : s_X9_sortByKeys_2 x1 x2 M = some o) (hP : ∀ y, o = .inl y → V X 0 0 Q 2 [some (vr (xG X) 97), some (vi x1), some (vi y.1), none] [] y.2) (hE : ∀ z, o = .inr (.inl z) → V X 0 0 Q 68 [none, none, none, none] [] z) (hR : ∀ q, o = .inr (.inr q) → Q = Qn X none q) : V X 0 0 Q 2 [some (vr (xG X) 97), some (vi x1), some (vi x2), none] [] M := by
  unfold s_X9_sortByKeys_2 at h
  refine x_iloadn hX dX9_sortByKeys_2 rfl ?_
  refine x_iloadn hX dX9_sortByKeys_3 rfl ?_
  refine x_icmp_ge (tgt := 68) hX dX9_sortByKeys_4 (by decide) rfl rfl (fun hc => ?_) (fun hc => ?_)
  · replace h := (if_pos hc).symm.trans h
    refine x_iloadn hX dX9_sortByKeys_7 rfl ?_
    refine x_istoren (ls' := [some (vr (xG X) 97), some (vi x1), some (vi x2), some (vi x2)]) hX dX9_sortByKeys_8 rfl rfl rfl ?_
    refine x_weak (ls' := [some (vr (xG X) 97), some (vi x1), some (vi x2), some (vi x2)]) [true, true, true, true] rfl ?_
    refine lp_use (x := (x2, M)) (P := fun x => V X 0 0 Q 9 [some (vr (xG X) 97), some (vi x1), some (vi x2), some (vi x.1)] [] x.2) (PE := fun z_8 => V X 0 0 Q 55 [some (vr (xG X) 97), some (vi x1), some (vi x2), some (vi z_8.1)] [] z_8.2) (PR := fun q => Q = Qn X none q) h (fun x o hh hP hE hR => ts_X9_sortByKeys_9 hX hs x1 x2 x.1 x.2 o hh hP hE hR) (fun z_8 h => ?_) (fun q h => ?_)
    · show V X 0 0 Q 55 [some (vr (xG X) 97), some (vi x1), some (vi x2), some (vi z_8.1)] [] z_8.2
      exact x_weak [true, true, true, true] rfl (tj_X9_sortByKeys_55_2 hX hs x1 x2 z_8.1 z_8.2 o h hP hE hR)
    · exact hR q (Option.some.inj h).symm
  · replace h := (if_neg hc).symm.trans h
    exact x_weak [false, false, false, false] rfl (hE M (Option.some.inj h).symm)
set_option maxRecDepth 100000 in
set_option maxHeartbeats 4000000 in
theorem c_X9_sortByKeys {l : Launch} {G : Gx} (hG : GOK G) (hl : l.stackTraces = false) (hs : SOK G)  (x1 : Int) (M : Mem) (Mr : Mem) (h : f_X9_sortByKeys x1 M = some Mr) : Cn l G mX9_sortByKeys 1 [vr G 97, vi x1] M none Mr := by
  refine Cn_of2 (ls := [some (vr G 97), some (vi x1), none, none]) hG hl kX9_sortByKeys rfl (Nat.le_of_ble_eq_true rfl) rfl rfl rfl rfl rfl (fun X eG el hX => ?_)
  subst eG; subst el
  unfold f_X9_sortByKeys at h
  refine x_iconst hX dX9_sortByKeys_0 ?_
  refine x_istoren (ls' := [some (vr (xG X) 97), some (vi x1), some (vi 0), none]) hX dX9_sortByKeys_1 rfl rfl rfl ?_
  refine x_weak (ls' := [some (vr (xG X) 97), some (vi x1), some (vi 0), none]) [true, true, true, false] rfl ?_
  refine lp_use (x := (0, M)) (P := fun x => V X 0 0 (Qn X none Mr) 2 [some (vr (xG X) 97), some (vi x1), some (vi x.1), none] [] x.2) (PE := fun z_12 => V X 0 0 (Qn X none Mr) 68 [none, none, none, none] [] z_12) (PR := fun q => (Qn X none Mr) = Qn X none q) h (fun x o hh hP hE hR => ts_X9_sortByKeys_2 hX hs x1 x.1 x.2 o hh hP hE hR) (fun z_12 h => ?_) (fun q h => ?_)
  · show V X 0 0 (Qn X none Mr) 68 [none, none, none, none] [] z_12
    cases h
    exact x_vret hX dX9_sortByKeys_68 rfl
  · cases h; rfl
set_option maxRecDepth 100000 in
set_option maxHeartbeats 4000000 in
theorem ts_X9_applyTo_17 {X : Cxt} (hX : Gd X RX9 cX9_applyTo 3 (none) 1) (hs : SOK (xG X)) {a1 : Nat} (h1 : at_ (xG X) a1 10 0) (x2 : Int) (M : Mem) {Q : State → Prop} (o : (Int × Mem) ⊕ ((Mem) ⊕ (Mem))) (h : s_X9_applyTo_17 a1 x2 M = some o) (hP : ∀ y, o = .inl y → V X 0 0 Q 17 [some (vr (xG X) 97), some (vr (xG X) a1), some (vi y.1)] [] y.2) (hE : ∀ z, o = .inr (.inl z) → V X 0 0 Q 48 [none, none, none] [] z) (hR : ∀ q, o = .inr (.inr q) → Q = Qn X none q) : V X 0 0 Q 17 [some (vr (xG X) 97), some (vr (xG X) a1), some (vi x2)] [] M := by
  unfold s_X9_applyTo_17 at h
  refine x_iloadn hX dX9_applyTo_17 rfl ?_
  refine x_aloadn hX dX9_applyTo_18 rfl ?_
  refine x_getI hX dX9_applyTo_19 fl_X9_54 rfl h1 ?_
  refine x_icmp_ge (tgt := 48) hX dX9_applyTo_22 (by decide) rfl rfl (fun hc => ?_) (fun hc => ?_)
  · replace h := (if_pos hc).symm.trans h
    refine x_aloadn hX dX9_applyTo_25 rfl ?_
    refine x_getRj (j := a1 + 1) hX dX9_applyTo_26 fl_X9_96 rfl h1 rfl ?_
    refine x_iloadn hX dX9_applyTo_29 rfl ?_
    refine x_aloadn hX dX9_applyTo_30 rfl ?_
    refine x_getRj (j := 138) hX dX9_applyTo_31 fl_X9_28 rfl (st97 hs) rfl ?_
    refine x_aloadn hX dX9_applyTo_34 rfl ?_
    refine x_getRj (j := 137) hX dX9_applyTo_35 fl_X9_25 rfl (st97 hs) rfl ?_
    refine x_iloadn hX dX9_applyTo_38 rfl ?_
    obtain ⟨b_2, h⟩ := gi_of h
    refine x_iald hX dX9_applyTo_39 (st137 hs) b_2 rfl ?_
    obtain ⟨b_3, h⟩ := gi_of h
    refine x_iald hX dX9_applyTo_40 (st138 hs) b_3 rfl ?_
    obtain ⟨b_5, h⟩ := gi_of h
    obtain ⟨M_4, eM_4, h⟩ := bnd_of h
    refine x_iast hX dX9_applyTo_41 (fo_0_1 (gk hX) h1) b_5 rfl (x_meq eM_4 ?_)
    obtain ⟨x2_6, ex2_6, h⟩ := bnd_of h
    refine x_iinc (ls' := [some (vr (xG X) 97), some (vr (xG X) a1), some (vi x2_6)]) hX dX9_applyTo_42 rfl rfl ex2_6 rfl ?_
    refine x_goto (tgt := 17) hX dX9_applyTo_45 (by decide) ?_
    exact x_weak [true, true, true] rfl (hP (x2_6, M_4) (Option.some.inj h).symm)
  · replace h := (if_neg hc).symm.trans h
    exact x_weak [false, false, false] rfl (hE M (Option.some.inj h).symm)
set_option maxRecDepth 100000 in
set_option maxHeartbeats 4000000 in
theorem c_X9_applyTo {l : Launch} {G : Gx} (hG : GOK G) (hl : l.stackTraces = false) (hs : SOK G) {a1 : Nat} (h1 : at_ G a1 10 0) (M : Mem) (Mr : Mem) (h : f_X9_applyTo a1 M = some Mr) : Cn l G mX9_applyTo 1 [vr G 97, vr G a1] M none Mr := by
  refine Cn_of2 (ls := [some (vr G 97), some (vr G a1), none]) hG hl kX9_applyTo rfl (Nat.le_of_ble_eq_true rfl) rfl rfl rfl rfl rfl (fun X eG el hX => ?_)
  subst eG; subst el
  unfold f_X9_applyTo at h
  refine x_aloadn hX dX9_applyTo_0 rfl ?_
  refine x_getRj (j := a1 + 1) hX dX9_applyTo_1 fl_X9_96 rfl h1 rfl ?_
  refine x_iconst hX dX9_applyTo_4 ?_
  refine x_aloadn hX dX9_applyTo_5 rfl ?_
  refine x_getRj (j := 138) hX dX9_applyTo_6 fl_X9_28 rfl (st97 hs) rfl ?_
  refine x_iconst hX dX9_applyTo_9 ?_
  refine x_bipush hX dX9_applyTo_10 bp_8 ?_
  obtain ⟨M_1, eM_1, h⟩ := bnd_of h
  refine x_copy (st := []) hX dX9_applyTo_12 cpw_X9_79 (fo_0_1 (gk hX) h1) (st138 hs) (by decide +kernel) (Nat.le_of_ble_eq_true rfl) (Nat.le_of_ble_eq_true rfl) (Nat.le_of_ble_eq_true rfl) (x_meq eM_1 ?_)
  refine x_iconst hX dX9_applyTo_15 ?_
  refine x_istoren (ls' := [some (vr (xG X) 97), some (vr (xG X) a1), some (vi 0)]) hX dX9_applyTo_16 rfl rfl rfl ?_
  refine x_weak (ls' := [some (vr (xG X) 97), some (vr (xG X) a1), some (vi 0)]) [true, true, true] rfl ?_
  refine lp_use (x := (0, M_1)) (P := fun x => V X 0 0 (Qn X none Mr) 17 [some (vr (xG X) 97), some (vr (xG X) a1), some (vi x.1)] [] x.2) (PE := fun z_7 => V X 0 0 (Qn X none Mr) 48 [none, none, none] [] z_7) (PR := fun q => (Qn X none Mr) = Qn X none q) h (fun x o hh hP hE hR => ts_X9_applyTo_17 hX hs h1 x.1 x.2 o hh hP hE hR) (fun z_7 h => ?_) (fun q h => ?_)
  · show V X 0 0 (Qn X none Mr) 48 [none, none, none] [] z_7
    cases h
    exact x_vret hX dX9_applyTo_48 rfl
  · cases h; rfl
set_option maxRecDepth 100000 in
set_option maxHeartbeats 4000000 in
theorem c_X10_append {l : Launch} {G : Gx} (hG : GOK G) (hl : l.stackTraces = false) (hs : SOK G)  (x1 : Int) (M : Mem) (Mr : Mem) (h : f_X10_append x1 M = some Mr) : Cn l G mX10_append 1 [vr G 38, vi x1] M none Mr := by
  refine Cn_of2 (ls := [some (vr G 38), some (vi x1)]) hG hl kX10_append rfl (Nat.le_of_ble_eq_true rfl) rfl rfl rfl rfl rfl (fun X eG el hX => ?_)
  subst eG; subst el
  unfold f_X10_append at h
  refine x_aloadn hX dX10_append_0 rfl ?_
  refine x_getRj (j := 39) hX dX10_append_1 fl_X10_9 rfl (st38 hs) rfl ?_
  refine x_aloadn hX dX10_append_4 rfl ?_
  refine x_getI hX dX10_append_5 fl_X10_19 rfl (st38 hs) ?_
  refine x_iloadn hX dX10_append_8 rfl ?_
  obtain ⟨b_2, h⟩ := gi_of h
  obtain ⟨M_1, eM_1, h⟩ := bnd_of h
  refine x_bast hX dX10_append_9 (st39 hs) b_2 rfl (x_meq eM_1 ?_)
  refine x_aloadn hX dX10_append_10 rfl ?_
  refine x_dup hX dX10_append_11 rfl ?_
  refine x_getI hX dX10_append_12 fl_X10_19 rfl (st38 hs) ?_
  refine x_iconst hX dX10_append_15 ?_
  refine x_iadd hX dX10_append_16 ?_
  obtain ⟨M_3, eM_3, h⟩ := bnd_of h
  refine x_putI hX dX10_append_17 fp_X10_19 rfl (st38 hs) (x_meq eM_3 ?_)
  cases h
  exact x_vret hX dX10_append_20 rfl
set_option maxRecDepth 100000 in
set_option maxHeartbeats 4000000 in
theorem c_X10_fail {l : Launch} {G : Gx} (hG : GOK G) (hl : l.stackTraces = false) (hs : SOK G)  (x1 : Int) (M : Mem) (r : Int) (Mr : Mem) (h : f_X10_fail x1 M = some (r, Mr)) : Cn l G mX10_fail 1 [vr G 38, vi x1] M (some (vi r)) Mr := by
  refine Cn_of2 (ls := [some (vr G 38), some (vi x1)]) hG hl kX10_fail rfl (Nat.le_of_ble_eq_true rfl) rfl rfl rfl rfl rfl (fun X eG el hX => ?_)
  subst eG; subst el
  unfold f_X10_fail at h
  refine x_aloadn hX dX10_fail_0 rfl ?_
  refine x_iloadn hX dX10_fail_1 rfl ?_
  obtain ⟨M_1, eM_1, h⟩ := bnd_of h
  refine x_putI hX dX10_fail_2 fp_X10_22 rfl (st38 hs) (x_meq eM_1 ?_)
  refine x_aloadn hX dX10_fail_5 rfl ?_
  refine x_aloadn hX dX10_fail_6 rfl ?_
  refine x_getI hX dX10_fail_7 fl_X10_51 rfl (st38 hs) ?_
  obtain ⟨M_2, eM_2, h⟩ := bnd_of h
  refine x_putI hX dX10_fail_10 fp_X10_15 rfl (st38 hs) (x_meq eM_2 ?_)
  refine x_iconst hX dX10_fail_13 ?_
  cases h
  exact x_zret hX dX10_fail_14 (Or.inl cw_0) rfl
set_option maxRecDepth 100000 in
set_option maxHeartbeats 4000000 in
theorem c_X10_isWithin {l : Launch} {G : Gx} (hG : GOK G) (hl : l.stackTraces = false) (hs : SOK G)  (x1 : Int) (x2 : Int) (M : Mem) (r : Int) (h : f_X10_isWithin x1 x2 M = some r) : Cn l G mX10_isWithin 1 [vr G 38, vi x1, vi x2] M (some (vi r)) M := by
  refine Cn_of2 (ls := [some (vr G 38), some (vi x1), some (vi x2)]) hG hl kX10_isWithin rfl (Nat.le_of_ble_eq_true rfl) rfl rfl rfl rfl rfl (fun X eG el hX => ?_)
  subst eG; subst el
  unfold f_X10_isWithin at h
  refine x_aloadn hX dX10_isWithin_0 rfl ?_
  refine x_getI hX dX10_isWithin_1 fl_X10_68 rfl (st38 hs) ?_
  refine x_iloadn hX dX10_isWithin_4 rfl ?_
  refine x_icmp_lt (tgt := 20) hX dX10_isWithin_5 (by decide) rfl rfl (fun hc => ?_) (fun hc => ?_)
  · replace h := (if_pos hc).symm.trans h
    refine x_iconst hX dX10_isWithin_20 ?_
    cases h
    exact x_zret hX dX10_isWithin_21 (Or.inl cw_0) rfl
  · replace h := (if_neg hc).symm.trans h
    refine x_aloadn hX dX10_isWithin_8 rfl ?_
    refine x_getI hX dX10_isWithin_9 fl_X10_68 rfl (st38 hs) ?_
    refine x_iloadn hX dX10_isWithin_12 rfl ?_
    refine x_icmp_gt (tgt := 20) hX dX10_isWithin_13 (by decide) rfl rfl (fun hc => ?_) (fun hc => ?_)
    · replace h := (if_pos hc).symm.trans h
      refine x_iconst hX dX10_isWithin_20 ?_
      cases h
      exact x_zret hX dX10_isWithin_21 (Or.inl cw_0) rfl
    · replace h := (if_neg hc).symm.trans h
      refine x_iconst hX dX10_isWithin_16 ?_
      refine x_goto (tgt := 21) hX dX10_isWithin_17 (by decide) ?_
      cases h
      exact x_zret hX dX10_isWithin_21 (Or.inr cw_1) rfl
set_option maxRecDepth 100000 in
set_option maxHeartbeats 4000000 in
theorem ts_X10_passWord_0 {X : Cxt} (hX : Gd X RX10 cX10_passWord 1 (none) 1) (hs : SOK (xG X))  (M : Mem) {Q : State → Prop} (o : (Mem) ⊕ ((Mem) ⊕ (Mem))) (h : s_X10_passWord_0 M = some o) (hP : ∀ y, o = .inl y → V X 0 0 Q 0 [some (vr (xG X) 38)] [] y) (hE : ∀ z, o = .inr (.inl z) → V X 0 0 Q 52 [none] [] z) (hR : ∀ q, o = .inr (.inr q) → Q = Qn X none q) : V X 0 0 Q 0 [some (vr (xG X) 38)] [] M := by
  unfold s_X10_passWord_0 at h
  refine x_aloadn hX dX10_passWord_0 rfl ?_
  refine x_getI hX dX10_passWord_1 fl_X10_25 rfl (st38 hs) ?_
  refine x_aloadn hX dX10_passWord_4 rfl ?_
  refine x_getI hX dX10_passWord_5 fl_X10_19 rfl (st38 hs) ?_
  refine x_icmp_ge (tgt := 52) hX dX10_passWord_8 (by decide) rfl rfl (fun hc => ?_) (fun hc => ?_)
  · replace h := (if_pos hc).symm.trans h
    refine x_aloadn hX dX10_passWord_11 rfl ?_
    refine x_getRj (j := 39) hX dX10_passWord_12 fl_X10_9 rfl (st38 hs) rfl ?_
    refine x_aloadn hX dX10_passWord_15 rfl ?_
    refine x_getI hX dX10_passWord_16 fl_X10_25 rfl (st38 hs) ?_
    obtain ⟨b_1, h⟩ := gi_of h
    refine x_bald hX dX10_passWord_19 (st39 hs) b_1 rfl ?_
    refine x_bipush hX dX10_passWord_20 bp_97 ?_
    refine x_icmp_lt (tgt := 52) hX dX10_passWord_22 (by decide) rfl cw_97 (fun hc => ?_) (fun hc => ?_)
    · replace h := (if_pos hc).symm.trans h
      exact x_weak [false] rfl (hE M (Option.some.inj h).symm)
    · replace h := (if_neg hc).symm.trans h
      refine x_aloadn hX dX10_passWord_25 rfl ?_
      refine x_getRj (j := 39) hX dX10_passWord_26 fl_X10_9 rfl (st38 hs) rfl ?_
      refine x_aloadn hX dX10_passWord_29 rfl ?_
      refine x_getI hX dX10_passWord_30 fl_X10_25 rfl (st38 hs) ?_
      obtain ⟨b_2, h⟩ := gi_of h
      refine x_bald hX dX10_passWord_33 (st39 hs) b_2 rfl ?_
      refine x_bipush hX dX10_passWord_34 bp_122 ?_
      refine x_icmp_gt (tgt := 52) hX dX10_passWord_36 (by decide) rfl cw_122 (fun hc => ?_) (fun hc => ?_)
      · replace h := (if_pos hc).symm.trans h
        exact x_weak [false] rfl (hE M (Option.some.inj h).symm)
      · replace h := (if_neg hc).symm.trans h
        refine x_aloadn hX dX10_passWord_39 rfl ?_
        refine x_dup hX dX10_passWord_40 rfl ?_
        refine x_getI hX dX10_passWord_41 fl_X10_25 rfl (st38 hs) ?_
        refine x_iconst hX dX10_passWord_44 ?_
        refine x_iadd hX dX10_passWord_45 ?_
        obtain ⟨M_3, eM_3, h⟩ := bnd_of h
        refine x_putI hX dX10_passWord_46 fp_X10_25 rfl (st38 hs) (x_meq eM_3 ?_)
        refine x_goto (tgt := 0) hX dX10_passWord_49 (by decide) ?_
        exact x_weak [true] rfl (hP M_3 (Option.some.inj h).symm)
  · replace h := (if_neg hc).symm.trans h
    exact x_weak [false] rfl (hE M (Option.some.inj h).symm)
set_option maxRecDepth 100000 in
set_option maxHeartbeats 4000000 in
theorem c_X10_passWord {l : Launch} {G : Gx} (hG : GOK G) (hl : l.stackTraces = false) (hs : SOK G)  (M : Mem) (Mr : Mem) (h : f_X10_passWord M = some Mr) : Cn l G mX10_passWord 1 [vr G 38] M none Mr := by
  refine Cn_of2 (ls := [some (vr G 38)]) hG hl kX10_passWord rfl (Nat.le_of_ble_eq_true rfl) rfl rfl rfl rfl rfl (fun X eG el hX => ?_)
  subst eG; subst el
  unfold f_X10_passWord at h
  refine x_weak (ls' := [some (vr (xG X) 38)]) [true] rfl ?_
  refine lp_use (x := M) (P := fun x => V X 0 0 (Qn X none Mr) 0 [some (vr (xG X) 38)] [] x) (PE := fun z_4 => V X 0 0 (Qn X none Mr) 52 [none] [] z_4) (PR := fun q => (Qn X none Mr) = Qn X none q) h (fun x o hh hP hE hR => ts_X10_passWord_0 hX hs x o hh hP hE hR) (fun z_4 h => ?_) (fun q h => ?_)
  · show V X 0 0 (Qn X none Mr) 52 [none] [] z_4
    cases h
    exact x_vret hX dX10_passWord_52 rfl
  · cases h; rfl
set_option maxRecDepth 100000 in
set_option maxHeartbeats 4000000 in
theorem tj_X10_passNumber_77_5 {X : Cxt} (hX : Gd X RX10 cX10_passNumber 1 (none) 1) (hs : SOK (xG X))   (M : Mem) {Q : State → Prop} (o : (Mem) ⊕ ((Mem) ⊕ (Mem))) (h : j_X10_passNumber_77_5 M = some o) (hP : ∀ y, o = .inl y → V X 0 0 Q 5 [some (vr (xG X) 38)] [] y) (hE : ∀ z, o = .inr (.inl z) → V X 0 0 Q 90 [none] [] z) (hR : ∀ q, o = .inr (.inr q) → Q = Qn X none q) : V X 0 0 Q 77 [some (vr (xG X) 38)] [] M := by
  unfold j_X10_passNumber_77_5 at h
  refine x_aloadn hX dX10_passNumber_77 rfl ?_
  refine x_dup hX dX10_passNumber_78 rfl ?_
  refine x_getI hX dX10_passNumber_79 fl_X10_25 rfl (st38 hs) ?_
  refine x_iconst hX dX10_passNumber_82 ?_
  refine x_iadd hX dX10_passNumber_83 ?_
  obtain ⟨M_6, eM_6, h⟩ := bnd_of h
  refine x_putI hX dX10_passNumber_84 fp_X10_25 rfl (st38 hs) (x_meq eM_6 ?_)
  refine x_goto (tgt := 5) hX dX10_passNumber_87 (by decide) ?_
  exact x_weak [true] rfl (hP M_6 (Option.some.inj h).symm)
set_option maxRecDepth 100000 in
set_option maxHeartbeats 4000000 in
theorem ts_X10_passNumber_5 {X : Cxt} (hX : Gd X RX10 cX10_passNumber 1 (none) 1) (hs : SOK (xG X))  (M : Mem) {Q : State → Prop} (o : (Mem) ⊕ ((Mem) ⊕ (Mem))) (h : s_X10_passNumber_5 M = some o) (hP : ∀ y, o = .inl y → V X 0 0 Q 5 [some (vr (xG X) 38)] [] y) (hE : ∀ z, o = .inr (.inl z) → V X 0 0 Q 90 [none] [] z) (hR : ∀ q, o = .inr (.inr q) → Q = Qn X none q) : V X 0 0 Q 5 [some (vr (xG X) 38)] [] M := by
  unfold s_X10_passNumber_5 at h
  refine x_aloadn hX dX10_passNumber_5 rfl ?_
  refine x_getI hX dX10_passNumber_6 fl_X10_25 rfl (st38 hs) ?_
  refine x_aloadn hX dX10_passNumber_9 rfl ?_
  refine x_getI hX dX10_passNumber_10 fl_X10_19 rfl (st38 hs) ?_
  refine x_icmp_ge (tgt := 90) hX dX10_passNumber_13 (by decide) rfl rfl (fun hc => ?_) (fun hc => ?_)
  · replace h := (if_pos hc).symm.trans h
    refine x_aloadn hX dX10_passNumber_16 rfl ?_
    refine x_getRj (j := 39) hX dX10_passNumber_17 fl_X10_9 rfl (st38 hs) rfl ?_
    refine x_aloadn hX dX10_passNumber_20 rfl ?_
    refine x_getI hX dX10_passNumber_21 fl_X10_25 rfl (st38 hs) ?_
    obtain ⟨b_2, h⟩ := gi_of h
    refine x_bald hX dX10_passNumber_24 (st39 hs) b_2 rfl ?_
    refine x_bipush hX dX10_passNumber_25 bp_48 ?_
    refine x_icmp_lt (tgt := 90) hX dX10_passNumber_27 (by decide) rfl cw_48 (fun hc => ?_) (fun hc => ?_)
    · replace h := (if_pos hc).symm.trans h
      exact x_weak [false] rfl (hE M (Option.some.inj h).symm)
    · replace h := (if_neg hc).symm.trans h
      refine x_aloadn hX dX10_passNumber_30 rfl ?_
      refine x_getRj (j := 39) hX dX10_passNumber_31 fl_X10_9 rfl (st38 hs) rfl ?_
      refine x_aloadn hX dX10_passNumber_34 rfl ?_
      refine x_getI hX dX10_passNumber_35 fl_X10_25 rfl (st38 hs) ?_
      obtain ⟨b_3, h⟩ := gi_of h
      refine x_bald hX dX10_passNumber_38 (st39 hs) b_3 rfl ?_
      refine x_bipush hX dX10_passNumber_39 bp_57 ?_
      refine x_icmp_gt (tgt := 90) hX dX10_passNumber_41 (by decide) rfl cw_57 (fun hc => ?_) (fun hc => ?_)
      · replace h := (if_pos hc).symm.trans h
        exact x_weak [false] rfl (hE M (Option.some.inj h).symm)
      · replace h := (if_neg hc).symm.trans h
        refine x_aloadn hX dX10_passNumber_44 rfl ?_
        refine x_getI hX dX10_passNumber_45 fl_X10_68 rfl (st38 hs) ?_
        refine x_ldc hX dX10_passNumber_48 w_795 ?_
        refine x_icmp_ge (tgt := 77) hX dX10_passNumber_50 (by decide) rfl cw_100000 (fun hc => ?_) (fun hc => ?_)
        · replace h := (if_pos hc).symm.trans h
          refine x_aloadn hX dX10_passNumber_53 rfl ?_
          refine x_aloadn hX dX10_passNumber_54 rfl ?_
          refine x_getI hX dX10_passNumber_55 fl_X10_68 rfl (st38 hs) ?_
          refine x_bipush hX dX10_passNumber_58 bp_10 ?_
          refine x_imul hX dX10_passNumber_60 ?_
          refine x_aloadn hX dX10_passNumber_61 rfl ?_
          refine x_getRj (j := 39) hX dX10_passNumber_62 fl_X10_9 rfl (st38 hs) rfl ?_
          refine x_aloadn hX dX10_passNumber_65 rfl ?_
          refine x_getI hX dX10_passNumber_66 fl_X10_25 rfl (st38 hs) ?_
          obtain ⟨b_4, h⟩ := gi_of h
          refine x_bald hX dX10_passNumber_69 (st39 hs) b_4 rfl ?_
          refine x_iadd hX dX10_passNumber_70 ?_
          refine x_bipush hX dX10_passNumber_71 bp_48 ?_
          refine x_isub hX dX10_passNumber_73 ?_
          obtain ⟨M_5, eM_5, h⟩ := bnd_of h
          refine x_putI hX dX10_passNumber_74 fp_X10_68 rfl (st38 hs) (x_meq eM_5 ?_)
          exact x_weak [true] rfl (tj_X10_passNumber_77_5 hX hs M_5 o h hP hE hR)
        · replace h := (if_neg hc).symm.trans h
          exact x_weak [true] rfl (tj_X10_passNumber_77_5 hX hs M o h hP hE hR)
  · replace h := (if_neg hc).symm.trans h
    exact x_weak [false] rfl (hE M (Option.some.inj h).symm)
set_option maxRecDepth 100000 in
set_option maxHeartbeats 4000000 in
theorem c_X10_passNumber {l : Launch} {G : Gx} (hG : GOK G) (hl : l.stackTraces = false) (hs : SOK G)  (M : Mem) (Mr : Mem) (h : f_X10_passNumber M = some Mr) : Cn l G mX10_passNumber 1 [vr G 38] M none Mr := by
  refine Cn_of2 (ls := [some (vr G 38)]) hG hl kX10_passNumber rfl (Nat.le_of_ble_eq_true rfl) rfl rfl rfl rfl rfl (fun X eG el hX => ?_)
  subst eG; subst el
  unfold f_X10_passNumber at h
  refine x_aloadn hX dX10_passNumber_0 rfl ?_
  refine x_iconst hX dX10_passNumber_1 ?_
  obtain ⟨M_1, eM_1, h⟩ := bnd_of h
  refine x_putI hX dX10_passNumber_2 fp_X10_68 rfl (st38 hs) (x_meq eM_1 ?_)
  refine x_weak (ls' := [some (vr (xG X) 38)]) [true] rfl ?_
  refine lp_use (x := M_1) (P := fun x => V X 0 0 (Qn X none Mr) 5 [some (vr (xG X) 38)] [] x) (PE := fun z_7 => V X 0 0 (Qn X none Mr) 90 [none] [] z_7) (PR := fun q => (Qn X none Mr) = Qn X none q) h (fun x o hh hP hE hR => ts_X10_passNumber_5 hX hs x o hh hP hE hR) (fun z_7 h => ?_) (fun q h => ?_)
  · show V X 0 0 (Qn X none Mr) 90 [none] [] z_7
    cases h
    exact x_vret hX dX10_passNumber_90 rfl
  · cases h; rfl
