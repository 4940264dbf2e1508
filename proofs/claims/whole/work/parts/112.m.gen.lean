-- written by wip/gen/emit.py: X12_wordHere, X12_errorCode, X12_errorPosition, X12_copies, X12_isAisle, X12_isItem, X12_isOrder, X12_isBatch, X12_isZone, X12_setLayout, X12_opensOrder, X12_ofOrder, X12_batchOf, X12_setsStates, X12_behind, X12_seeksGap, X12_combinedBy, X12_shapeOf, X12_returnOf, X12_setPolicy
set_option maxRecDepth 100000 in
set_option maxHeartbeats 4000000 in
theorem tj_X12_wordHere_81_23 {X : Cxt} (hX : Gd X RX12 cX12_wordHere 5 (some .int) 1) (hs : SOK (xG X))   (x1 : Int) (x2 : Int) (x3 : Int) (y0 : Int) (M : Mem) {Q : State → Prop} (o : (Int × Int) ⊕ ((Int × Int) ⊕ (Int))) (h : j_X12_wordHere_81_23 x1 x2 x3 y0 M = some o) (hP : ∀ y, o = .inl y → V X 0 0 Q 23 [some (vr (xG X) 139), some (vi x1), some (vi x2), some (vi y.1), some (vi y.2)] [] M) (hE : ∀ z, o = .inr (.inl z) → V X 0 0 Q 89 [some (vr (xG X) 139), some (vi x1), some (vi x2), some (vi z.1), some (vi z.2)] [] M) (hR : ∀ q, o = .inr (.inr q) → Q = Qn X (some (vi q)) M) : V X 0 0 Q 81 [some (vr (xG X) 139), some (vi x1), some (vi x2), some (vi x3), none] [vi y0] M := by
  unfold j_X12_wordHere_81_23 at h
  refine x_istore (ls' := [some (vr (xG X) 139), some (vi x1), some (vi x2), some (vi x3), some (vi y0)]) hX dX12_wordHere_81 rfl rfl rfl ?_
  obtain ⟨x3_2, ex3_2, h⟩ := bnd_of h
  refine x_iinc (ls' := [some (vr (xG X) 139), some (vi x1), some (vi x2), some (vi x3_2), some (vi y0)]) hX dX12_wordHere_83 rfl rfl ex3_2 rfl ?_
  refine x_goto (tgt := 23) hX dX12_wordHere_86 (by decide) ?_
  exact x_weak [true, true, true, true, true] rfl (hP (x3_2, y0) (Option.some.inj h).symm)
set_option maxRecDepth 100000 in
set_option maxHeartbeats 4000000 in
theorem tj_X12_wordHere_80_23 {X : Cxt} (hX : Gd X RX12 cX12_wordHere 5 (some .int) 1) (hs : SOK (xG X))   (x1 : Int) (x2 : Int) (x3 : Int) (M : Mem) {Q : State → Prop} (o : (Int × Int) ⊕ ((Int × Int) ⊕ (Int))) (h : j_X12_wordHere_80_23 x1 x2 x3 M = some o) (hP : ∀ y, o = .inl y → V X 0 0 Q 23 [some (vr (xG X) 139), some (vi x1), some (vi x2), some (vi y.1), some (vi y.2)] [] M) (hE : ∀ z, o = .inr (.inl z) → V X 0 0 Q 89 [some (vr (xG X) 139), some (vi x1), some (vi x2), some (vi z.1), some (vi z.2)] [] M) (hR : ∀ q, o = .inr (.inr q) → Q = Qn X (some (vi q)) M) : V X 0 0 Q 80 [some (vr (xG X) 139), some (vi x1), some (vi x2), some (vi x3), none] [] M := by
  unfold j_X12_wordHere_80_23 at h
  refine x_iconst hX dX12_wordHere_80 ?_
  exact x_weak [true, true, true, true, false] rfl (tj_X12_wordHere_81_23 hX hs x1 x2 x3 0 M o h hP hE hR)
set_option maxRecDepth 100000 in
set_option maxHeartbeats 4000000 in
theorem ts_X12_wordHere_23 {X : Cxt} (hX : Gd X RX12 cX12_wordHere 5 (some .int) 1) (hs : SOK (xG X))  (x1 : Int) (x2 : Int) (M : Mem) (x3 : Int) (x4 : Int) {Q : State → Prop} (o : (Int × Int) ⊕ ((Int × Int) ⊕ (Int))) (h : s_X12_wordHere_23 x1 x2 M x3 x4 = some o) (hP : ∀ y, o = .inl y → V X 0 0 Q 23 [some (vr (xG X) 139), some (vi x1), some (vi x2), some (vi y.1), some (vi y.2)] [] M) (hE : ∀ z, o = .inr (.inl z) → V X 0 0 Q 89 [some (vr (xG X) 139), some (vi x1), some (vi x2), some (vi z.1), some (vi z.2)] [] M) (hR : ∀ q, o = .inr (.inr q) → Q = Qn X (some (vi q)) M) : V X 0 0 Q 23 [some (vr (xG X) 139), some (vi x1), some (vi x2), some (vi x3), some (vi x4)] [] M := by
  unfold s_X12_wordHere_23 at h
  refine x_aloadn hX dX12_wordHere_23 rfl ?_
  refine x_getRj (j := 156) hX dX12_wordHere_24 fl_X12_64 rfl (st139 hs) rfl ?_
  refine x_iloadn hX dX12_wordHere_27 rfl ?_
  refine x_iloadn hX dX12_wordHere_28 rfl ?_
  refine x_iadd hX dX12_wordHere_29 ?_
  obtain ⟨b_1, h⟩ := gi_of h
  refine x_bald hX dX12_wordHere_30 (st156 hs) b_1 rfl ?_
  refine x_bipush hX dX12_wordHere_31 bp_32 ?_
  refine x_icmp_eq (tgt := 89) hX dX12_wordHere_33 (by decide) rfl cw_32 (fun hc => ?_) (fun hc => ?_)
  · replace h := (if_pos hc).symm.trans h
    exact x_weak [true, true, true, true, true] rfl (hE (x3, x4) (Option.some.inj h).symm)
  · replace h := (if_neg hc).symm.trans h
    refine x_iload hX dX12_wordHere_36 rfl ?_
    refine x_if_eq (tgt := 80) hX dX12_wordHere_38 (by decide) rfl (fun hc => ?_) (fun hc => ?_)
    · replace h := (if_pos hc).symm.trans h
      exact x_weak [true, true, true, true, false] rfl (tj_X12_wordHere_80_23 hX hs x1 x2 x3 M o h hP hE hR)
    · replace h := (if_neg hc).symm.trans h
      refine x_aloadn hX dX12_wordHere_41 rfl ?_
      refine x_getI hX dX12_wordHere_42 fl_X12_362 rfl (st139 hs) ?_
      refine x_iloadn hX dX12_wordHere_45 rfl ?_
      refine x_iadd hX dX12_wordHere_46 ?_
      refine x_aloadn hX dX12_wordHere_47 rfl ?_
      refine x_getI hX dX12_wordHere_48 fl_X12_356 rfl (st139 hs) ?_
      refine x_icmp_ge (tgt := 80) hX dX12_wordHere_51 (by decide) rfl rfl (fun hc => ?_) (fun hc => ?_)
      · replace h := (if_pos hc).symm.trans h
        refine x_aloadn hX dX12_wordHere_54 rfl ?_
        refine x_getRj (j := 155) hX dX12_wordHere_55 fl_X12_56 rfl (st139 hs) rfl ?_
        refine x_aloadn hX dX12_wordHere_58 rfl ?_
        refine x_getI hX dX12_wordHere_59 fl_X12_362 rfl (st139 hs) ?_
        refine x_iloadn hX dX12_wordHere_62 rfl ?_
        refine x_iadd hX dX12_wordHere_63 ?_
        obtain ⟨b_3, h⟩ := gi_of h
        refine x_bald hX dX12_wordHere_64 (st155 hs) b_3 rfl ?_
        refine x_aloadn hX dX12_wordHere_65 rfl ?_
        refine x_getRj (j := 156) hX dX12_wordHere_66 fl_X12_64 rfl (st139 hs) rfl ?_
        refine x_iloadn hX dX12_wordHere_69 rfl ?_
        refine x_iloadn hX dX12_wordHere_70 rfl ?_
        refine x_iadd hX dX12_wordHere_71 ?_
        obtain ⟨b_4, h⟩ := gi_of h
        refine x_bald hX dX12_wordHere_72 (st156 hs) b_4 rfl ?_
        refine x_icmp_ne (tgt := 80) hX dX12_wordHere_73 (by decide) rfl rfl (fun hc => ?_) (fun hc => ?_)
        · replace h := (if_pos hc).symm.trans h
          refine x_iconst hX dX12_wordHere_76 ?_
          refine x_goto (tgt := 81) hX dX12_wordHere_77 (by decide) ?_
          exact x_weak [true, true, true, true, false] rfl (tj_X12_wordHere_81_23 hX hs x1 x2 x3 1 M o h hP hE hR)
        · replace h := (if_neg hc).symm.trans h
          exact x_weak [true, true, true, true, false] rfl (tj_X12_wordHere_80_23 hX hs x1 x2 x3 M o h hP hE hR)
      · replace h := (if_neg hc).symm.trans h
        exact x_weak [true, true, true, true, false] rfl (tj_X12_wordHere_80_23 hX hs x1 x2 x3 M o h hP hE hR)
set_option maxRecDepth 100000 in
set_option maxHeartbeats 4000000 in
theorem tj_X12_wordHere_109_4 {X : Cxt} (hX : Gd X RX12 cX12_wordHere 5 (some .int) 1) (hs : SOK (xG X))   (x1 : Int) (x2 : Int) (x3 : Int) (M : Mem) {Q : State → Prop} (o : (Int × Int) ⊕ ((Unit) ⊕ (Int))) (h : j_X12_wordHere_109_4 x1 x2 x3 M = some o) (hP : ∀ y, o = .inl y → V X 0 0 Q 4 [some (vr (xG X) 139), some (vi y.1), some (vi y.2), none, none] [] M) (hE : ∀ z, o = .inr (.inl z) → V X 0 0 Q 121 [none, none, none, none, none] [] M) (hR : ∀ q, o = .inr (.inr q) → Q = Qn X (some (vi q)) M) : V X 0 0 Q 109 [some (vr (xG X) 139), some (vi x1), some (vi x2), some (vi x3), none] [] M := by
  unfold j_X12_wordHere_109_4 at h
  refine x_iloadn hX dX12_wordHere_109 rfl ?_
  refine x_iloadn hX dX12_wordHere_110 rfl ?_
  refine x_iconst hX dX12_wordHere_111 ?_
  refine x_iadd hX dX12_wordHere_112 ?_
  refine x_iadd hX dX12_wordHere_113 ?_
  obtain ⟨x1_6, ex1_6, h⟩ := bnd_of h
  refine x_istoren (ls' := [some (vr (xG X) 139), some (vi x1_6), some (vi x2), some (vi x3), none]) hX dX12_wordHere_114 rfl ex1_6 rfl ?_
  obtain ⟨x2_7, ex2_7, h⟩ := bnd_of h
  refine x_iinc (ls' := [some (vr (xG X) 139), some (vi x1_6), some (vi x2_7), some (vi x3), none]) hX dX12_wordHere_115 rfl rfl ex2_7 rfl ?_
  refine x_goto (tgt := 4) hX dX12_wordHere_118 (by decide) ?_
  exact x_weak [true, true, true, false, false] rfl (hP (x1_6, x2_7) (Option.some.inj h).symm)
set_option maxRecDepth 100000 in
set_option maxHeartbeats 4000000 in
theorem ts_X12_wordHere_4 {X : Cxt} (hX : Gd X RX12 cX12_wordHere 5 (some .int) 1) (hs : SOK (xG X))  (M : Mem) (x1 : Int) (x2 : Int) {Q : State → Prop} (o : (Int × Int) ⊕ ((Unit) ⊕ (Int))) (h : s_X12_wordHere_4 M x1 x2 = some o) (hP : ∀ y, o = .inl y → V X 0 0 Q 4 [some (vr (xG X) 139), some (vi y.1), some (vi y.2), none, none] [] M) (hE : ∀ z, o = .inr (.inl z) → V X 0 0 Q 121 [none, none, none, none, none] [] M) (hR : ∀ q, o = .inr (.inr q) → Q = Qn X (some (vi q)) M) : V X 0 0 Q 4 [some (vr (xG X) 139), some (vi x1), some (vi x2), none, none] [] M := by
  unfold s_X12_wordHere_4 at h
  refine x_aloadn hX dX12_wordHere_4 rfl ?_
  refine x_getI hX dX12_wordHere_5 fl_X12_371 rfl (st139 hs) ?_
  refine x_iconst hX dX12_wordHere_8 ?_
  refine x_icmp_ne (tgt := 121) hX dX12_wordHere_9 (by decide) rfl cw_1 (fun hc => ?_) (fun hc => ?_)
  · replace h := (if_pos hc).symm.trans h
    refine x_iloadn hX dX12_wordHere_12 rfl ?_
    refine x_bipush hX dX12_wordHere_13 bp_12 ?_
    refine x_icmp_ge (tgt := 121) hX dX12_wordHere_15 (by decide) rfl cw_12 (fun hc => ?_) (fun hc => ?_)
    · replace h := (if_pos hc).symm.trans h
      refine x_iconst hX dX12_wordHere_18 ?_
      refine x_istoren (ls' := [some (vr (xG X) 139), some (vi x1), some (vi x2), some (vi 0), none]) hX dX12_wordHere_19 rfl rfl rfl ?_
      refine x_iconst hX dX12_wordHere_20 ?_
      refine x_istore (ls' := [some (vr (xG X) 139), some (vi x1), some (vi x2), some (vi 0), some (vi 1)]) hX dX12_wordHere_21 rfl rfl rfl ?_
      refine x_weak (ls' := [some (vr (xG X) 139), some (vi x1), some (vi x2), some (vi 0), some (vi 1)]) [true, true, true, true, true] rfl ?_
      refine lp_use (x := (0, 1)) (P := fun x => V X 0 0 Q 23 [some (vr (xG X) 139), some (vi x1), some (vi x2), some (vi x.1), some (vi x.2)] [] M) (PE := fun z_5 => V X 0 0 Q 89 [some (vr (xG X) 139), some (vi x1), some (vi x2), some (vi z_5.1), some (vi z_5.2)] [] M) (PR := fun q => Q = Qn X (some (vi q)) M) h (fun x o hh hP hE hR => ts_X12_wordHere_23 hX hs x1 x2 M x.1 x.2 o hh hP hE hR) (fun z_5 h => ?_) (fun q h => ?_)
      · show V X 0 0 Q 89 [some (vr (xG X) 139), some (vi x1), some (vi x2), some (vi z_5.1), some (vi z_5.2)] [] M
        refine x_iload hX dX12_wordHere_89 rfl ?_
        refine x_if_eq (tgt := 109) hX dX12_wordHere_91 (by decide) rfl (fun hc => ?_) (fun hc => ?_)
        · replace h := (if_pos hc).symm.trans h
          exact x_weak [true, true, true, true, false] rfl (tj_X12_wordHere_109_4 hX hs x1 x2 z_5.1 M o h hP hE hR)
        · replace h := (if_neg hc).symm.trans h
          refine x_aloadn hX dX12_wordHere_94 rfl ?_
          refine x_getI hX dX12_wordHere_95 fl_X12_356 rfl (st139 hs) ?_
          refine x_aloadn hX dX12_wordHere_98 rfl ?_
          refine x_getI hX dX12_wordHere_99 fl_X12_362 rfl (st139 hs) ?_
          refine x_isub hX dX12_wordHere_102 ?_
          refine x_iloadn hX dX12_wordHere_103 rfl ?_
          refine x_icmp_ne (tgt := 109) hX dX12_wordHere_104 (by decide) rfl rfl (fun hc => ?_) (fun hc => ?_)
          · replace h := (if_pos hc).symm.trans h
            refine x_iloadn hX dX12_wordHere_107 rfl ?_
            exact x_qeq (hR x2 (Option.some.inj h).symm) (x_iret hX dX12_wordHere_108 rfl)
          · replace h := (if_neg hc).symm.trans h
            exact x_weak [true, true, true, true, false] rfl (tj_X12_wordHere_109_4 hX hs x1 x2 z_5.1 M o h hP hE hR)
      · exact hR q (Option.some.inj h).symm
    · replace h := (if_neg hc).symm.trans h
      exact x_weak [false, false, false, false, false] rfl (hE () (Option.some.inj h).symm)
  · replace h := (if_neg hc).symm.trans h
    exact x_weak [false, false, false, false, false] rfl (hE () (Option.some.inj h).symm)
set_option maxRecDepth 100000 in
set_option maxHeartbeats 4000000 in
theorem c_X12_wordHere {l : Launch} {G : Gx} (hG : GOK G) (hl : l.stackTraces = false) (hs : SOK G)  (M : Mem) (r : Int) (h : f_X12_wordHere M = some r) : Cn l G mX12_wordHere 1 [vr G 139] M (some (vi r)) M := by
  refine Cn_of2 (ls := [some (vr G 139), none, none, none, none]) hG hl kX12_wordHere rfl (Nat.le_of_ble_eq_true rfl) rfl rfl rfl rfl rfl (fun X eG el hX => ?_)
  subst eG; subst el
  unfold f_X12_wordHere at h
  refine x_iconst hX dX12_wordHere_0 ?_
  refine x_istoren (ls' := [some (vr (xG X) 139), some (vi 0), none, none, none]) hX dX12_wordHere_1 rfl rfl rfl ?_
  refine x_iconst hX dX12_wordHere_2 ?_
  refine x_istoren (ls' := [some (vr (xG X) 139), some (vi 0), some (vi 0), none, none]) hX dX12_wordHere_3 rfl rfl rfl ?_
  refine x_weak (ls' := [some (vr (xG X) 139), some (vi 0), some (vi 0), none, none]) [true, true, true, false, false] rfl ?_
  refine lp_use (x := (0, 0)) (P := fun x => V X 0 0 (Qn X (some (vi r)) M) 4 [some (vr (xG X) 139), some (vi x.1), some (vi x.2), none, none] [] M) (PE := fun z_8 => V X 0 0 (Qn X (some (vi r)) M) 121 [none, none, none, none, none] [] M) (PR := fun q => (Qn X (some (vi r)) M) = Qn X (some (vi q)) M) h (fun x o hh hP hE hR => ts_X12_wordHere_4 hX hs M x.1 x.2 o hh hP hE hR) (fun z_8 h => ?_) (fun q h => ?_)
  · show V X 0 0 (Qn X (some (vi r)) M) 121 [none, none, none, none, none] [] M
    refine x_iconst hX dX12_wordHere_121 ?_
    cases h
    exact x_iret hX dX12_wordHere_122 rfl
  · cases h; rfl
set_option maxRecDepth 100000 in
set_option maxHeartbeats 4000000 in
theorem c_X12_errorCode {l : Launch} {G : Gx} (hG : GOK G) (hl : l.stackTraces = false) (hs : SOK G)  (M : Mem) (r : Int) (Mr : Mem) (h : f_X12_errorCode M = some (r, Mr)) : Cn l G mX12_errorCode 1 [vr G 139] M (some (vi r)) Mr := by
  refine Cn_of2 (ls := [some (vr G 139)]) hG hl kX12_errorCode rfl (Nat.le_of_ble_eq_true rfl) rfl rfl rfl rfl rfl (fun X eG el hX => ?_)
  subst eG; subst el
  unfold f_X12_errorCode at h
  refine x_aloadn hX dX12_errorCode_0 rfl ?_
  refine x_iconst hX dX12_errorCode_1 ?_
  obtain ⟨M_1, eM_1, h⟩ := bnd_of h
  refine x_putI hX dX12_errorCode_2 fp_X12_70 rfl (st139 hs) (x_meq eM_1 ?_)
  refine x_aloadn hX dX12_errorCode_5 rfl ?_
  refine x_getI hX dX12_errorCode_6 fl_X12_378 rfl (st139 hs) ?_
  cases h
  exact x_iret hX dX12_errorCode_9 rfl
set_option maxRecDepth 100000 in
set_option maxHeartbeats 4000000 in
theorem c_X12_errorPosition {l : Launch} {G : Gx} (hG : GOK G) (hl : l.stackTraces = false) (hs : SOK G)  (M : Mem) (r : Int) (Mr : Mem) (h : f_X12_errorPosition M = some (r, Mr)) : Cn l G mX12_errorPosition 1 [vr G 139] M (some (vi r)) Mr := by
  refine Cn_of2 (ls := [some (vr G 139)]) hG hl kX12_errorPosition rfl (Nat.le_of_ble_eq_true rfl) rfl rfl rfl rfl rfl (fun X eG el hX => ?_)
  subst eG; subst el
  unfold f_X12_errorPosition at h
  refine x_aloadn hX dX12_errorPosition_0 rfl ?_
  refine x_iconst hX dX12_errorPosition_1 ?_
  obtain ⟨M_1, eM_1, h⟩ := bnd_of h
  refine x_putI hX dX12_errorPosition_2 fp_X12_70 rfl (st139 hs) (x_meq eM_1 ?_)
  refine x_aloadn hX dX12_errorPosition_5 rfl ?_
  refine x_getI hX dX12_errorPosition_6 fl_X12_60 rfl (st139 hs) ?_
  cases h
  exact x_iret hX dX12_errorPosition_9 rfl
set_option maxRecDepth 100000 in
set_option maxHeartbeats 4000000 in
theorem ts_X12_copies_3 {X : Cxt} (hX : Gd X RX12 cX12_copies 5 (none) 1) {a0 n0 : Nat} (h0 : at_ (xG X) a0 1 n0) {a2 n2 : Nat} (h2 : at_ (xG X) a2 1 n2) (x1 : Int) (x3 : Int) (x4 : Int) (M : Mem) {Q : State → Prop} (o : (Int × Mem) ⊕ ((Mem) ⊕ (Mem))) (h : s_X12_copies_3 a0 n0 a2 n2 x1 x3 x4 M = some o) (hP : ∀ y, o = .inl y → V X 0 0 Q 3 [some (vr (xG X) a0), some (vi x1), some (vr (xG X) a2), some (vi x3), some (vi y.1)] [] y.2) (hE : ∀ z, o = .inr (.inl z) → V X 0 0 Q 29 [none, none, none, none, none] [] z) (hR : ∀ q, o = .inr (.inr q) → Q = Qn X none q) : V X 0 0 Q 3 [some (vr (xG X) a0), some (vi x1), some (vr (xG X) a2), some (vi x3), some (vi x4)] [] M := by
  unfold s_X12_copies_3 at h
  refine x_iload hX dX12_copies_3 rfl ?_
  refine x_sipush hX dX12_copies_5 sp_469 ?_
  refine x_icmp_ge (tgt := 29) hX dX12_copies_8 (by decide) rfl cw_469 (fun hc => ?_) (fun hc => ?_)
  · replace h := (if_pos hc).symm.trans h
    refine x_aloadn hX dX12_copies_11 rfl ?_
    refine x_iloadn hX dX12_copies_12 rfl ?_
    refine x_iload hX dX12_copies_13 rfl ?_
    refine x_iadd hX dX12_copies_15 ?_
    refine x_aloadn hX dX12_copies_16 rfl ?_
    refine x_iloadn hX dX12_copies_17 rfl ?_
    refine x_iload hX dX12_copies_18 rfl ?_
    refine x_iadd hX dX12_copies_20 ?_
    obtain ⟨b_1, h⟩ := gi_of h
    refine x_iald hX dX12_copies_21 h0 b_1 rfl ?_
    obtain ⟨b_3, h⟩ := gi_of h
    obtain ⟨M_2, eM_2, h⟩ := bnd_of h
    refine x_iast hX dX12_copies_22 h2 b_3 rfl (x_meq eM_2 ?_)
    obtain ⟨x4_4, ex4_4, h⟩ := bnd_of h
    refine x_iinc (ls' := [some (vr (xG X) a0), some (vi x1), some (vr (xG X) a2), some (vi x3), some (vi x4_4)]) hX dX12_copies_23 rfl rfl ex4_4 rfl ?_
    refine x_goto (tgt := 3) hX dX12_copies_26 (by decide) ?_
    exact x_weak [true, true, true, true, true] rfl (hP (x4_4, M_2) (Option.some.inj h).symm)
  · replace h := (if_neg hc).symm.trans h
    exact x_weak [false, false, false, false, false] rfl (hE M (Option.some.inj h).symm)
set_option maxRecDepth 100000 in
set_option maxHeartbeats 4000000 in
theorem c_X12_copies {l : Launch} {G : Gx} (hG : GOK G) (hl : l.stackTraces = false) {a0 n0 : Nat} (h0 : at_ G a0 1 n0) {a2 n2 : Nat} (h2 : at_ G a2 1 n2) (x1 : Int) (x3 : Int) (M : Mem) (Mr : Mem) (h : f_X12_copies a0 n0 a2 n2 x1 x3 M = some Mr) : Cn l G mX12_copies 1 [vr G a0, vi x1, vr G a2, vi x3] M none Mr := by
  refine Cn_of2 (ls := [some (vr G a0), some (vi x1), some (vr G a2), some (vi x3), none]) hG hl kX12_copies rfl (Nat.le_of_ble_eq_true rfl) rfl rfl rfl rfl rfl (fun X eG el hX => ?_)
  subst eG; subst el
  unfold f_X12_copies at h
  refine x_iconst hX dX12_copies_0 ?_
  refine x_istore (ls' := [some (vr (xG X) a0), some (vi x1), some (vr (xG X) a2), some (vi x3), some (vi 0)]) hX dX12_copies_1 rfl rfl rfl ?_
  refine x_weak (ls' := [some (vr (xG X) a0), some (vi x1), some (vr (xG X) a2), some (vi x3), some (vi 0)]) [true, true, true, true, true] rfl ?_
  refine lp_use (x := (0, M)) (P := fun x => V X 0 0 (Qn X none Mr) 3 [some (vr (xG X) a0), some (vi x1), some (vr (xG X) a2), some (vi x3), some (vi x.1)] [] x.2) (PE := fun z_5 => V X 0 0 (Qn X none Mr) 29 [none, none, none, none, none] [] z_5) (PR := fun q => (Qn X none Mr) = Qn X none q) h (fun x o hh hP hE hR => ts_X12_copies_3 hX h0 h2 x1 x3 x.1 x.2 o hh hP hE hR) (fun z_5 h => ?_) (fun q h => ?_)
  · show V X 0 0 (Qn X none Mr) 29 [none, none, none, none, none] [] z_5
    cases h
    exact x_vret hX dX12_copies_29 rfl
  · cases h; rfl
set_option maxRecDepth 100000 in
set_option maxHeartbeats 4000000 in
theorem c_X12_isAisle {l : Launch} {G : Gx} (hG : GOK G) (hl : l.stackTraces = false) (hs : SOK G)  (x1 : Int) (M : Mem) (r : Int) (h : f_X12_isAisle x1 M = some r) : Cn l G mX12_isAisle 2 [vr G 139, vi x1] M (some (vi r)) M := by
  refine Cn_of2 (ls := [some (vr G 139), some (vi x1)]) hG hl kX12_isAisle rfl (Nat.le_of_ble_eq_true rfl) rfl rfl rfl rfl rfl (fun X eG el hX => ?_)
  subst eG; subst el
  unfold f_X12_isAisle at h
  refine x_iloadn hX dX12_isAisle_0 rfl ?_
  refine x_iconst hX dX12_isAisle_1 ?_
  refine x_aloadn hX dX12_isAisle_2 rfl ?_
  refine x_getRj (j := 140) hX dX12_isAisle_3 fl_X12_7 rfl (st139 hs) rfl ?_
  refine x_iconst hX dX12_isAisle_6 ?_
  refine x_iald hX dX12_isAisle_7 (st140 hs) inc_0_469 ixc_0 ?_
  refine x_iconst hX dX12_isAisle_8 ?_
  refine x_isub hX dX12_isAisle_9 ?_
  obtain ⟨r_1, er_1, h⟩ := cl1_of h
  refine x_callSi (As := [vi x1, vi 0, vi ((M 140 0) - 1)]) (rest := []) hX dX12_isAisle_10 (c_X12_in (gk hX) (gl hX) x1 0 ((M 140 0) - 1) M _ er_1) kX12_in sX12_in w_1735 rfl rfl rfl (Nat.le_of_ble_eq_true rfl) z0 ?_
  obtain ⟨b_3, h⟩ := gz_of h
  cases h
  exact x_zret hX dX12_isAisle_13 b_3 rfl
set_option maxRecDepth 100000 in
set_option maxHeartbeats 4000000 in
theorem c_X12_isItem {l : Launch} {G : Gx} (hG : GOK G) (hl : l.stackTraces = false) (hs : SOK G)  (x1 : Int) (M : Mem) (r : Int) (h : f_X12_isItem x1 M = some r) : Cn l G mX12_isItem 2 [vr G 139, vi x1] M (some (vi r)) M := by
  refine Cn_of2 (ls := [some (vr G 139), some (vi x1)]) hG hl kX12_isItem rfl (Nat.le_of_ble_eq_true rfl) rfl rfl rfl rfl rfl (fun X eG el hX => ?_)
  subst eG; subst el
  unfold f_X12_isItem at h
  refine x_iloadn hX dX12_isItem_0 rfl ?_
  refine x_iconst hX dX12_isItem_1 ?_
  refine x_aloadn hX dX12_isItem_2 rfl ?_
  refine x_getRj (j := 140) hX dX12_isItem_3 fl_X12_7 rfl (st139 hs) rfl ?_
  refine x_iconst hX dX12_isItem_6 ?_
  refine x_iald hX dX12_isItem_7 (st140 hs) inc_3_469 ixc_3 ?_
  refine x_iconst hX dX12_isItem_8 ?_
  refine x_isub hX dX12_isItem_9 ?_
  obtain ⟨r_1, er_1, h⟩ := cl1_of h
  refine x_callSi (As := [vi x1, vi 0, vi ((M 140 3) - 1)]) (rest := []) hX dX12_isItem_10 (c_X12_in (gk hX) (gl hX) x1 0 ((M 140 3) - 1) M _ er_1) kX12_in sX12_in w_1735 rfl rfl rfl (Nat.le_of_ble_eq_true rfl) z0 ?_
  obtain ⟨b_3, h⟩ := gz_of h
  cases h
  exact x_zret hX dX12_isItem_13 b_3 rfl
set_option maxRecDepth 100000 in
set_option maxHeartbeats 4000000 in
theorem c_X12_isOrder {l : Launch} {G : Gx} (hG : GOK G) (hl : l.stackTraces = false) (hs : SOK G)  (x1 : Int) (M : Mem) (r : Int) (h : f_X12_isOrder x1 M = some r) : Cn l G mX12_isOrder 2 [vr G 139, vi x1] M (some (vi r)) M := by
  refine Cn_of2 (ls := [some (vr G 139), some (vi x1)]) hG hl kX12_isOrder rfl (Nat.le_of_ble_eq_true rfl) rfl rfl rfl rfl rfl (fun X eG el hX => ?_)
  subst eG; subst el
  unfold f_X12_isOrder at h
  refine x_iloadn hX dX12_isOrder_0 rfl ?_
  refine x_iconst hX dX12_isOrder_1 ?_
  refine x_aloadn hX dX12_isOrder_2 rfl ?_
  refine x_getRj (j := 140) hX dX12_isOrder_3 fl_X12_7 rfl (st139 hs) rfl ?_
  refine x_iconst hX dX12_isOrder_6 ?_
  refine x_iald hX dX12_isOrder_7 (st140 hs) inc_4_469 ixc_4 ?_
  refine x_iconst hX dX12_isOrder_8 ?_
  refine x_isub hX dX12_isOrder_9 ?_
  obtain ⟨r_1, er_1, h⟩ := cl1_of h
  refine x_callSi (As := [vi x1, vi 0, vi ((M 140 4) - 1)]) (rest := []) hX dX12_isOrder_10 (c_X12_in (gk hX) (gl hX) x1 0 ((M 140 4) - 1) M _ er_1) kX12_in sX12_in w_1735 rfl rfl rfl (Nat.le_of_ble_eq_true rfl) z0 ?_
  obtain ⟨b_3, h⟩ := gz_of h
  cases h
  exact x_zret hX dX12_isOrder_13 b_3 rfl
set_option maxRecDepth 100000 in
set_option maxHeartbeats 4000000 in
theorem c_X12_isBatch {l : Launch} {G : Gx} (hG : GOK G) (hl : l.stackTraces = false) (hs : SOK G)  (x1 : Int) (M : Mem) (r : Int) (h : f_X12_isBatch x1 M = some r) : Cn l G mX12_isBatch 2 [vr G 139, vi x1] M (some (vi r)) M := by
  refine Cn_of2 (ls := [some (vr G 139), some (vi x1)]) hG hl kX12_isBatch rfl (Nat.le_of_ble_eq_true rfl) rfl rfl rfl rfl rfl (fun X eG el hX => ?_)
  subst eG; subst el
  unfold f_X12_isBatch at h
  refine x_iloadn hX dX12_isBatch_0 rfl ?_
  refine x_iconst hX dX12_isBatch_1 ?_
  refine x_aloadn hX dX12_isBatch_2 rfl ?_
  refine x_getRj (j := 140) hX dX12_isBatch_3 fl_X12_7 rfl (st139 hs) rfl ?_
  refine x_iconst hX dX12_isBatch_6 ?_
  refine x_iald hX dX12_isBatch_7 (st140 hs) inc_5_469 ixc_5 ?_
  refine x_iconst hX dX12_isBatch_8 ?_
  refine x_isub hX dX12_isBatch_9 ?_
  obtain ⟨r_1, er_1, h⟩ := cl1_of h
  refine x_callSi (As := [vi x1, vi 0, vi ((M 140 5) - 1)]) (rest := []) hX dX12_isBatch_10 (c_X12_in (gk hX) (gl hX) x1 0 ((M 140 5) - 1) M _ er_1) kX12_in sX12_in w_1735 rfl rfl rfl (Nat.le_of_ble_eq_true rfl) z0 ?_
  obtain ⟨b_3, h⟩ := gz_of h
  cases h
  exact x_zret hX dX12_isBatch_13 b_3 rfl
set_option maxRecDepth 100000 in
set_option maxHeartbeats 4000000 in
theorem c_X12_isZone {l : Launch} {G : Gx} (hG : GOK G) (hl : l.stackTraces = false) (hs : SOK G)  (x1 : Int) (M : Mem) (r : Int) (h : f_X12_isZone x1 M = some r) : Cn l G mX12_isZone 2 [vr G 139, vi x1] M (some (vi r)) M := by
  refine Cn_of2 (ls := [some (vr G 139), some (vi x1)]) hG hl kX12_isZone rfl (Nat.le_of_ble_eq_true rfl) rfl rfl rfl rfl rfl (fun X eG el hX => ?_)
  subst eG; subst el
  unfold f_X12_isZone at h
  refine x_iloadn hX dX12_isZone_0 rfl ?_
  refine x_iconst hX dX12_isZone_1 ?_
  refine x_aloadn hX dX12_isZone_2 rfl ?_
  obtain ⟨r_1, er_1, h⟩ := cl1_of h
  refine x_callVi (t := 11) (As := []) (rest := [vi 0, vi x1]) hX dX12_isZone_3 (c_X12_zones (gk hX) (gl hX) hs M _ er_1) kX12_zones vX12_zones w_1971 (st139 hs) rfl rfl rfl rfl (Nat.le_of_ble_eq_true rfl) z0 ?_
  refine x_iconst hX dX12_isZone_6 ?_
  refine x_isub hX dX12_isZone_7 ?_
  obtain ⟨r_3, er_3, h⟩ := cl1_of h
  refine x_callSi (As := [vi x1, vi 0, vi (r_1 - 1)]) (rest := []) hX dX12_isZone_8 (c_X12_in (gk hX) (gl hX) x1 0 (r_1 - 1) M _ er_3) kX12_in sX12_in w_1735 rfl rfl rfl (Nat.le_of_ble_eq_true rfl) z0 ?_
  obtain ⟨b_5, h⟩ := gz_of h
  cases h
  exact x_zret hX dX12_isZone_11 b_5 rfl
set_option maxRecDepth 100000 in
set_option maxHeartbeats 4000000 in
theorem tj_X12_setLayout_49 {X : Cxt} (hX : Gd X RX12 cX12_setLayout 4 (some .int) 2) (hs : SOK (xG X))   (x1 : Int) (x2 : Int) (x3 : Int) (y1 : Int) (M : Mem) (r : Int) (Mr : Mem) (h : j_X12_setLayout_49 x1 x2 x3 y1 M = some (r, Mr)) : V X 0 0 (Qn X (some (vi r)) Mr) 49 [some (vr (xG X) 139), some (vi x1), some (vi x2), some (vi x3)] [vi y1, vr (xG X) 139] M := by
  unfold j_X12_setLayout_49 at h
  obtain ⟨M_3, eM_3, h⟩ := bnd_of h
  refine x_putI hX dX12_setLayout_49 fp_X12_70 rfl (st139 hs) (x_meq eM_3 ?_)
  refine x_aloadn hX dX12_setLayout_52 rfl ?_
  refine x_getI hX dX12_setLayout_53 fl_X12_70 rfl (st139 hs) ?_
  refine x_if_le (tgt := 61) hX dX12_setLayout_56 (by decide) rfl (fun hc => ?_) (fun hc => ?_)
  · replace h := (if_pos hc).symm.trans h
    refine x_iconst hX dX12_setLayout_59 ?_
    cases h
    exact x_iret hX dX12_setLayout_60 rfl
  · replace h := (if_neg hc).symm.trans h
    refine x_aloadn hX dX12_setLayout_61 rfl ?_
    refine x_iloadn hX dX12_setLayout_62 rfl ?_
    refine x_iloadn hX dX12_setLayout_63 rfl ?_
    refine x_iloadn hX dX12_setLayout_64 rfl ?_
    obtain ⟨M_5, er_4, h⟩ := cl1_of h
    refine x_callVv (t := 11) (As := [vi x1, vi x2, vi x3]) (rest := []) hX dX12_setLayout_65 (c_X12_laysHall (gk hX) (gl hX) hs x1 x2 x3 M_3 _ er_4) kX12_laysHall vX12_laysHall w_1738 (st139 hs) rfl rfl rfl rfl (Nat.le_of_ble_eq_true rfl) z0 ?_
    refine x_iloadn hX dX12_setLayout_68 rfl ?_
    refine x_iloadn hX dX12_setLayout_69 rfl ?_
    refine x_imul hX dX12_setLayout_70 ?_
    cases h
    exact x_iret hX dX12_setLayout_71 rfl
set_option maxRecDepth 100000 in
set_option maxHeartbeats 4000000 in
theorem tj_X12_setLayout_31 {X : Cxt} (hX : Gd X RX12 cX12_setLayout 4 (some .int) 2) (hs : SOK (xG X))   (x1 : Int) (x2 : Int) (x3 : Int) (M : Mem) (r : Int) (Mr : Mem) (h : j_X12_setLayout_31 x1 x2 x3 M = some (r, Mr)) : V X 0 0 (Qn X (some (vi r)) Mr) 31 [some (vr (xG X) 139), some (vi x1), some (vi x2), some (vi x3)] [vr (xG X) 139] M := by
  unfold j_X12_setLayout_31 at h
  refine x_iconst hX dX12_setLayout_31 ?_
  refine x_goto (tgt := 49) hX dX12_setLayout_32 (by decide) ?_
  exact x_weak [true, true, true, true] rfl (tj_X12_setLayout_49 hX hs x1 x2 x3 1 M r Mr h)
set_option maxRecDepth 100000 in
set_option maxHeartbeats 4000000 in
theorem c_X12_setLayout {l : Launch} {G : Gx} (hG : GOK G) (hl : l.stackTraces = false) (hs : SOK G)  (x1 : Int) (x2 : Int) (x3 : Int) (M : Mem) (r : Int) (Mr : Mem) (h : f_X12_setLayout x1 x2 x3 M = some (r, Mr)) : Cn l G mX12_setLayout 2 [vr G 139, vi x1, vi x2, vi x3] M (some (vi r)) Mr := by
  refine Cn_of2 (ls := [some (vr G 139), some (vi x1), some (vi x2), some (vi x3)]) hG hl kX12_setLayout rfl (Nat.le_of_ble_eq_true rfl) rfl rfl rfl rfl rfl (fun X eG el hX => ?_)
  subst eG; subst el
  unfold f_X12_setLayout at h
  refine x_aloadn hX dX12_setLayout_0 rfl ?_
  refine x_iloadn hX dX12_setLayout_1 rfl ?_
  refine x_iconst hX dX12_setLayout_2 ?_
  refine x_bipush hX dX12_setLayout_3 bp_6 ?_
  obtain ⟨r_1, er_1, h⟩ := cl1_of h
  refine x_callSi (As := [vi x1, vi 1, vi 6]) (rest := [vr (xG X) 139]) hX dX12_setLayout_5 (c_X12_in (gk hX) (gl hX) x1 1 6 M _ er_1) kX12_in sX12_in w_1735 rfl rfl rfl (Nat.le_of_ble_eq_true rfl) z0 ?_
  refine x_if_eq (tgt := 31) hX dX12_setLayout_8 (by decide) rfl (fun hc => ?_) (fun hc => ?_)
  · replace h := (if_pos hc).symm.trans h
    exact x_weak [true, true, true, true] rfl (tj_X12_setLayout_31 hX hs x1 x2 x3 M r Mr h)
  · replace h := (if_neg hc).symm.trans h
    refine x_iloadn hX dX12_setLayout_11 rfl ?_
    refine x_iconst hX dX12_setLayout_12 ?_
    refine x_bipush hX dX12_setLayout_13 bp_20 ?_
    obtain ⟨r_6, er_6, h⟩ := cl1_of h
    refine x_callSi (As := [vi x2, vi 2, vi 20]) (rest := [vr (xG X) 139]) hX dX12_setLayout_15 (c_X12_in (gk hX) (gl hX) x2 2 20 M _ er_6) kX12_in sX12_in w_1735 rfl rfl rfl (Nat.le_of_ble_eq_true rfl) z0 ?_
    refine x_if_eq (tgt := 31) hX dX12_setLayout_18 (by decide) rfl (fun hc => ?_) (fun hc => ?_)
    · replace h := (if_pos hc).symm.trans h
      exact x_weak [true, true, true, true] rfl (tj_X12_setLayout_31 hX hs x1 x2 x3 M r Mr h)
    · replace h := (if_neg hc).symm.trans h
      refine x_iloadn hX dX12_setLayout_21 rfl ?_
      refine x_iconst hX dX12_setLayout_22 ?_
      refine x_bipush hX dX12_setLayout_23 bp_9 ?_
      obtain ⟨r_8, er_8, h⟩ := cl1_of h
      refine x_callSi (As := [vi x3, vi 1, vi 9]) (rest := [vr (xG X) 139]) hX dX12_setLayout_25 (c_X12_in (gk hX) (gl hX) x3 1 9 M _ er_8) kX12_in sX12_in w_1735 rfl rfl rfl (Nat.le_of_ble_eq_true rfl) z0 ?_
      refine x_if_ne (tgt := 35) hX dX12_setLayout_28 (by decide) rfl (fun hc => ?_) (fun hc => ?_)
      · replace h := (if_pos hc).symm.trans h
        exact x_weak [true, true, true, true] rfl (tj_X12_setLayout_31 hX hs x1 x2 x3 M r Mr h)
      · replace h := (if_neg hc).symm.trans h
        refine x_aloadn hX dX12_setLayout_35 rfl ?_
        refine x_getRj (j := 140) hX dX12_setLayout_36 fl_X12_7 rfl (st139 hs) rfl ?_
        refine x_iconst hX dX12_setLayout_39 ?_
        refine x_iald hX dX12_setLayout_40 (st140 hs) inc_3_469 ixc_3 ?_
        refine x_if_le (tgt := 48) hX dX12_setLayout_41 (by decide) rfl (fun hc => ?_) (fun hc => ?_)
        · replace h := (if_pos hc).symm.trans h
          refine x_iconst hX dX12_setLayout_44 ?_
          refine x_goto (tgt := 49) hX dX12_setLayout_45 (by decide) ?_
          exact x_weak [true, true, true, true] rfl (tj_X12_setLayout_49 hX hs x1 x2 x3 2 M r Mr h)
        · replace h := (if_neg hc).symm.trans h
          refine x_iconst hX dX12_setLayout_48 ?_
          exact x_weak [true, true, true, true] rfl (tj_X12_setLayout_49 hX hs x1 x2 x3 0 M r Mr h)
set_option maxRecDepth 100000 in
set_option maxHeartbeats 4000000 in
theorem ts_X12_opensOrder_9 {X : Cxt} (hX : Gd X RX12 cX12_opensOrder 4 (some .int) 2) (hs : SOK (xG X))  (x1 : Int) (x2 : Int) (x3 : Int) (M : Mem) {Q : State → Prop} (o : (Int × Mem) ⊕ ((Mem) ⊕ (Int × Mem))) (h : s_X12_opensOrder_9 x1 x2 x3 M = some o) (hP : ∀ y, o = .inl y → V X 0 0 Q 9 [some (vr (xG X) 139), some (vi x1), some (vi x2), some (vi y.1)] [] y.2) (hE : ∀ z, o = .inr (.inl z) → V X 0 0 Q 33 [some (vr (xG X) 139), some (vi x1), some (vi x2), none] [] z) (hR : ∀ q, o = .inr (.inr q) → Q = Qn X (some (vi q.1)) q.2) : V X 0 0 Q 9 [some (vr (xG X) 139), some (vi x1), some (vi x2), some (vi x3)] [] M := by
  unfold s_X12_opensOrder_9 at h
  refine x_iloadn hX dX12_opensOrder_9 rfl ?_
  refine x_bipush hX dX12_opensOrder_10 bp_22 ?_
  refine x_icmp_ge (tgt := 33) hX dX12_opensOrder_12 (by decide) rfl cw_22 (fun hc => ?_) (fun hc => ?_)
  · replace h := (if_pos hc).symm.trans h
    refine x_aloadn hX dX12_opensOrder_15 rfl ?_
    refine x_getRj (j := 140) hX dX12_opensOrder_16 fl_X12_7 rfl (st139 hs) rfl ?_
    refine x_iloadn hX dX12_opensOrder_19 rfl ?_
    obtain ⟨r_2, er_2, h⟩ := cl1_of h
    refine x_callSi (As := [vi x2]) (rest := [vr (xG X) 140]) hX dX12_opensOrder_20 (c_X12_orderAt (gk hX) (gl hX) x2 M _ er_2) kX12_orderAt sX12_orderAt w_1786 rfl rfl rfl (Nat.le_of_ble_eq_true rfl) z0 ?_
    refine x_iloadn hX dX12_opensOrder_23 rfl ?_
    refine x_iadd hX dX12_opensOrder_24 ?_
    refine x_iconst hX dX12_opensOrder_25 ?_
    obtain ⟨b_5, h⟩ := gi_of h
    obtain ⟨M_4, eM_4, h⟩ := bnd_of h
    refine x_iast hX dX12_opensOrder_26 (st140 hs) b_5 rfl (x_meq eM_4 ?_)
    obtain ⟨x3_6, ex3_6, h⟩ := bnd_of h
    refine x_iinc (ls' := [some (vr (xG X) 139), some (vi x1), some (vi x2), some (vi x3_6)]) hX dX12_opensOrder_27 rfl rfl ex3_6 rfl ?_
    refine x_goto (tgt := 9) hX dX12_opensOrder_30 (by decide) ?_
    exact x_weak [true, true, true, true] rfl (hP (x3_6, M_4) (Option.some.inj h).symm)
  · replace h := (if_neg hc).symm.trans h
    exact x_weak [true, true, true, false] rfl (hE M (Option.some.inj h).symm)
set_option maxRecDepth 100000 in
set_option maxHeartbeats 4000000 in
theorem c_X12_opensOrder {l : Launch} {G : Gx} (hG : GOK G) (hl : l.stackTraces = false) (hs : SOK G)  (x1 : Int) (M : Mem) (r : Int) (Mr : Mem) (h : f_X12_opensOrder x1 M = some (r, Mr)) : Cn l G mX12_opensOrder 2 [vr G 139, vi x1] M (some (vi r)) Mr := by
  refine Cn_of2 (ls := [some (vr G 139), some (vi x1), none, none]) hG hl kX12_opensOrder rfl (Nat.le_of_ble_eq_true rfl) rfl rfl rfl rfl rfl (fun X eG el hX => ?_)
  subst eG; subst el
  unfold f_X12_opensOrder at h
  refine x_aloadn hX dX12_opensOrder_0 rfl ?_
  refine x_getRj (j := 140) hX dX12_opensOrder_1 fl_X12_7 rfl (st139 hs) rfl ?_
  refine x_iconst hX dX12_opensOrder_4 ?_
  refine x_iald hX dX12_opensOrder_5 (st140 hs) inc_4_469 ixc_4 ?_
  obtain ⟨x2_1, ex2_1, h⟩ := bnd_of h
  refine x_istoren (ls' := [some (vr (xG X) 139), some (vi x1), some (vi x2_1), none]) hX dX12_opensOrder_6 rfl ex2_1 rfl ?_
  refine x_iconst hX dX12_opensOrder_7 ?_
  refine x_istoren (ls' := [some (vr (xG X) 139), some (vi x1), some (vi x2_1), some (vi 0)]) hX dX12_opensOrder_8 rfl rfl rfl ?_
  refine x_weak (ls' := [some (vr (xG X) 139), some (vi x1), some (vi x2_1), some (vi 0)]) [true, true, true, true] rfl ?_
  refine lp_use (x := (0, M)) (P := fun x => V X 0 0 (Qn X (some (vi r)) Mr) 9 [some (vr (xG X) 139), some (vi x1), some (vi x2_1), some (vi x.1)] [] x.2) (PE := fun z_7 => V X 0 0 (Qn X (some (vi r)) Mr) 33 [some (vr (xG X) 139), some (vi x1), some (vi x2_1), none] [] z_7) (PR := fun q => (Qn X (some (vi r)) Mr) = Qn X (some (vi q.1)) q.2) h (fun x o hh hP hE hR => ts_X12_opensOrder_9 hX hs x1 x2_1 x.1 x.2 o hh hP hE hR) (fun z_7 h => ?_) (fun q h => ?_)
  · show V X 0 0 (Qn X (some (vi r)) Mr) 33 [some (vr (xG X) 139), some (vi x1), some (vi x2_1), none] [] z_7
    refine x_aloadn hX dX12_opensOrder_33 rfl ?_
    refine x_getRj (j := 140) hX dX12_opensOrder_34 fl_X12_7 rfl (st139 hs) rfl ?_
    refine x_iloadn hX dX12_opensOrder_37 rfl ?_
    obtain ⟨r_8, er_8, h⟩ := cl1_of h
    refine x_callSi (As := [vi x2_1]) (rest := [vr (xG X) 140]) hX dX12_opensOrder_38 (c_X12_orderAt (gk hX) (gl hX) x2_1 z_7 _ er_8) kX12_orderAt sX12_orderAt w_1786 rfl rfl rfl (Nat.le_of_ble_eq_true rfl) z0 ?_
    refine x_iconst hX dX12_opensOrder_41 ?_
    refine x_iadd hX dX12_opensOrder_42 ?_
    refine x_iloadn hX dX12_opensOrder_43 rfl ?_
    obtain ⟨b_11, h⟩ := gi_of h
    obtain ⟨M_10, eM_10, h⟩ := bnd_of h
    refine x_iast hX dX12_opensOrder_44 (st140 hs) b_11 rfl (x_meq eM_10 ?_)
    refine x_aloadn hX dX12_opensOrder_45 rfl ?_
    refine x_getRj (j := 140) hX dX12_opensOrder_46 fl_X12_7 rfl (st139 hs) rfl ?_
    refine x_iconst hX dX12_opensOrder_49 ?_
    refine x_dup2 hX dX12_opensOrder_50 rfl rfl ?_
    refine x_iald hX dX12_opensOrder_51 (st140 hs) inc_4_469 ixc_4 ?_
    refine x_iconst hX dX12_opensOrder_52 ?_
    refine x_iadd hX dX12_opensOrder_53 ?_
    obtain ⟨M_12, eM_12, h⟩ := bnd_of h
    refine x_iast hX dX12_opensOrder_54 (st140 hs) inc_4_469 ixc_4 (x_meq eM_12 ?_)
    refine x_iloadn hX dX12_opensOrder_55 rfl ?_
    cases h
    exact x_iret hX dX12_opensOrder_56 rfl
  · cases h; rfl
set_option maxRecDepth 100000 in
set_option maxHeartbeats 4000000 in
theorem c_X12_ofOrder {l : Launch} {G : Gx} (hG : GOK G) (hl : l.stackTraces = false) (hs : SOK G)  (x1 : Int) (x2 : Int) (M : Mem) (r : Int) (h : f_X12_ofOrder x1 x2 M = some r) : Cn l G mX12_ofOrder 2 [vr G 139, vi x1, vi x2] M (some (vi r)) M := by
  refine Cn_of2 (ls := [some (vr G 139), some (vi x1), some (vi x2)]) hG hl kX12_ofOrder rfl (Nat.le_of_ble_eq_true rfl) rfl rfl rfl rfl rfl (fun X eG el hX => ?_)
  subst eG; subst el
  unfold f_X12_ofOrder at h
  refine x_aloadn hX dX12_ofOrder_0 rfl ?_
  refine x_getRj (j := 140) hX dX12_ofOrder_1 fl_X12_7 rfl (st139 hs) rfl ?_
  refine x_iloadn hX dX12_ofOrder_4 rfl ?_
  obtain ⟨r_1, er_1, h⟩ := cl1_of h
  refine x_callSi (As := [vi x1]) (rest := [vr (xG X) 140]) hX dX12_ofOrder_5 (c_X12_orderAt (gk hX) (gl hX) x1 M _ er_1) kX12_orderAt sX12_orderAt w_1786 rfl rfl rfl (Nat.le_of_ble_eq_true rfl) z0 ?_
  refine x_iloadn hX dX12_ofOrder_8 rfl ?_
  refine x_iadd hX dX12_ofOrder_9 ?_
  obtain ⟨b_3, h⟩ := gi_of h
  refine x_iald hX dX12_ofOrder_10 (st140 hs) b_3 rfl ?_
  cases h
  exact x_iret hX dX12_ofOrder_11 rfl
set_option maxRecDepth 100000 in
set_option maxHeartbeats 4000000 in
theorem ts_X12_batchOf_2 {X : Cxt} (hX : Gd X RX12 cX12_batchOf 3 (some .int) 2) (hs : SOK (xG X))  (x1 : Int) (M : Mem) (x2 : Int) {Q : State → Prop} (o : (Int) ⊕ ((Unit) ⊕ (Int))) (h : s_X12_batchOf_2 x1 M x2 = some o) (hP : ∀ y, o = .inl y → V X 0 0 Q 2 [some (vr (xG X) 139), some (vi x1), some (vi y)] [] M) (hE : ∀ z, o = .inr (.inl z) → V X 0 0 Q 37 [none, none, none] [] M) (hR : ∀ q, o = .inr (.inr q) → Q = Qn X (some (vi q)) M) : V X 0 0 Q 2 [some (vr (xG X) 139), some (vi x1), some (vi x2)] [] M := by
  unfold s_X12_batchOf_2 at h
  refine x_iloadn hX dX12_batchOf_2 rfl ?_
  refine x_aloadn hX dX12_batchOf_3 rfl ?_
  refine x_getRj (j := 140) hX dX12_batchOf_4 fl_X12_7 rfl (st139 hs) rfl ?_
  refine x_iconst hX dX12_batchOf_7 ?_
  refine x_iald hX dX12_batchOf_8 (st140 hs) inc_5_469 ixc_5 ?_
  refine x_icmp_ge (tgt := 37) hX dX12_batchOf_9 (by decide) rfl rfl (fun hc => ?_) (fun hc => ?_)
  · replace h := (if_pos hc).symm.trans h
    refine x_aloadn hX dX12_batchOf_12 rfl ?_
    refine x_getRj (j := 140) hX dX12_batchOf_13 fl_X12_7 rfl (st139 hs) rfl ?_
    refine x_sipush hX dX12_batchOf_16 sp_461 ?_
    refine x_iloadn hX dX12_batchOf_19 rfl ?_
    refine x_iadd hX dX12_batchOf_20 ?_
    obtain ⟨b_1, h⟩ := gi_of h
    refine x_iald hX dX12_batchOf_21 (st140 hs) b_1 rfl ?_
    refine x_iloadn hX dX12_batchOf_22 rfl ?_
    obtain ⟨r_2, er_2, h⟩ := cl1_of h
    refine x_callSi (As := [vi (M 140 (ix (461 + x2))), vi x1]) (rest := []) hX dX12_batchOf_23 (c_X12_has (gk hX) (gl hX) (M 140 (ix (461 + x2))) x1 M _ er_2) kX12_has sX12_has w_1868 rfl rfl rfl (Nat.le_of_ble_eq_true rfl) z0 ?_
    refine x_if_eq (tgt := 31) hX dX12_batchOf_26 (by decide) rfl (fun hc => ?_) (fun hc => ?_)
    · replace h := (if_pos hc).symm.trans h
      obtain ⟨x2_4, ex2_4, h⟩ := bnd_of h
      refine x_iinc (ls' := [some (vr (xG X) 139), some (vi x1), some (vi x2_4)]) hX dX12_batchOf_31 rfl rfl ex2_4 rfl ?_
      refine x_goto (tgt := 2) hX dX12_batchOf_34 (by decide) ?_
      exact x_weak [true, true, true] rfl (hP x2_4 (Option.some.inj h).symm)
    · replace h := (if_neg hc).symm.trans h
      refine x_iloadn hX dX12_batchOf_29 rfl ?_
      exact x_qeq (hR x2 (Option.some.inj h).symm) (x_iret hX dX12_batchOf_30 rfl)
  · replace h := (if_neg hc).symm.trans h
    exact x_weak [false, false, false] rfl (hE () (Option.some.inj h).symm)
set_option maxRecDepth 100000 in
set_option maxHeartbeats 4000000 in
theorem c_X12_batchOf {l : Launch} {G : Gx} (hG : GOK G) (hl : l.stackTraces = false) (hs : SOK G)  (x1 : Int) (M : Mem) (r : Int) (h : f_X12_batchOf x1 M = some r) : Cn l G mX12_batchOf 2 [vr G 139, vi x1] M (some (vi r)) M := by
  refine Cn_of2 (ls := [some (vr G 139), some (vi x1), none]) hG hl kX12_batchOf rfl (Nat.le_of_ble_eq_true rfl) rfl rfl rfl rfl rfl (fun X eG el hX => ?_)
  subst eG; subst el
  unfold f_X12_batchOf at h
  refine x_iconst hX dX12_batchOf_0 ?_
  refine x_istoren (ls' := [some (vr (xG X) 139), some (vi x1), some (vi 0)]) hX dX12_batchOf_1 rfl rfl rfl ?_
  refine x_weak (ls' := [some (vr (xG X) 139), some (vi x1), some (vi 0)]) [true, true, true] rfl ?_
  refine lp_use (x := 0) (P := fun x => V X 0 0 (Qn X (some (vi r)) M) 2 [some (vr (xG X) 139), some (vi x1), some (vi x)] [] M) (PE := fun z_5 => V X 0 0 (Qn X (some (vi r)) M) 37 [none, none, none] [] M) (PR := fun q => (Qn X (some (vi r)) M) = Qn X (some (vi q)) M) h (fun x o hh hP hE hR => ts_X12_batchOf_2 hX hs x1 M x o hh hP hE hR) (fun z_5 h => ?_) (fun q h => ?_)
  · show V X 0 0 (Qn X (some (vi r)) M) 37 [none, none, none] [] M
    refine x_iconst hX dX12_batchOf_37 ?_
    cases h
    exact x_iret hX dX12_batchOf_38 rfl
  · cases h; rfl
set_option maxRecDepth 100000 in
set_option maxHeartbeats 4000000 in
theorem tj_X12_setsStates_28_2 {X : Cxt} (hX : Gd X RX12 cX12_setsStates 4 (none) 2) (hs : SOK (xG X))   (x1 : Int) (x2 : Int) (x3 : Int) (M : Mem) {Q : State → Prop} (o : (Int × Mem) ⊕ ((Mem) ⊕ (Mem))) (h : j_X12_setsStates_28_2 x1 x2 x3 M = some o) (hP : ∀ y, o = .inl y → V X 0 0 Q 2 [some (vr (xG X) 139), some (vi x1), some (vi x2), some (vi y.1)] [] y.2) (hE : ∀ z, o = .inr (.inl z) → V X 0 0 Q 34 [none, none, none, none] [] z) (hR : ∀ q, o = .inr (.inr q) → Q = Qn X none q) : V X 0 0 Q 28 [some (vr (xG X) 139), some (vi x1), some (vi x2), some (vi x3)] [] M := by
  unfold j_X12_setsStates_28_2 at h
  obtain ⟨x3_3, ex3_3, h⟩ := bnd_of h
  refine x_iinc (ls' := [some (vr (xG X) 139), some (vi x1), some (vi x2), some (vi x3_3)]) hX dX12_setsStates_28 rfl rfl ex3_3 rfl ?_
  refine x_goto (tgt := 2) hX dX12_setsStates_31 (by decide) ?_
  exact x_weak [true, true, true, true] rfl (hP (x3_3, M) (Option.some.inj h).symm)
set_option maxRecDepth 100000 in
set_option maxHeartbeats 4000000 in
theorem ts_X12_setsStates_2 {X : Cxt} (hX : Gd X RX12 cX12_setsStates 4 (none) 2) (hs : SOK (xG X))  (x1 : Int) (x2 : Int) (x3 : Int) (M : Mem) {Q : State → Prop} (o : (Int × Mem) ⊕ ((Mem) ⊕ (Mem))) (h : s_X12_setsStates_2 x1 x2 x3 M = some o) (hP : ∀ y, o = .inl y → V X 0 0 Q 2 [some (vr (xG X) 139), some (vi x1), some (vi x2), some (vi y.1)] [] y.2) (hE : ∀ z, o = .inr (.inl z) → V X 0 0 Q 34 [none, none, none, none] [] z) (hR : ∀ q, o = .inr (.inr q) → Q = Qn X none q) : V X 0 0 Q 2 [some (vr (xG X) 139), some (vi x1), some (vi x2), some (vi x3)] [] M := by
  unfold s_X12_setsStates_2 at h
  refine x_iloadn hX dX12_setsStates_2 rfl ?_
  refine x_bipush hX dX12_setsStates_3 bp_16 ?_
  refine x_icmp_ge (tgt := 34) hX dX12_setsStates_5 (by decide) rfl cw_16 (fun hc => ?_) (fun hc => ?_)
  · replace h := (if_pos hc).symm.trans h
    refine x_iloadn hX dX12_setsStates_8 rfl ?_
    refine x_iloadn hX dX12_setsStates_9 rfl ?_
    obtain ⟨r_1, er_1, h⟩ := cl1_of h
    refine x_callSi (As := [vi x1, vi x3]) (rest := []) hX dX12_setsStates_10 (c_X12_has (gk hX) (gl hX) x1 x3 M _ er_1) kX12_has sX12_has w_1868 rfl rfl rfl (Nat.le_of_ble_eq_true rfl) z0 ?_
    refine x_if_eq (tgt := 28) hX dX12_setsStates_13 (by decide) rfl (fun hc => ?_) (fun hc => ?_)
    · replace h := (if_pos hc).symm.trans h
      exact x_weak [true, true, true, true] rfl (tj_X12_setsStates_28_2 hX hs x1 x2 x3 M o h hP hE hR)
    · replace h := (if_neg hc).symm.trans h
      refine x_aloadn hX dX12_setsStates_16 rfl ?_
      refine x_getRj (j := 140) hX dX12_setsStates_17 fl_X12_7 rfl (st139 hs) rfl ?_
      refine x_iloadn hX dX12_setsStates_20 rfl ?_
      obtain ⟨r_4, er_4, h⟩ := cl1_of h
      refine x_callSi (As := [vi x3]) (rest := [vr (xG X) 140]) hX dX12_setsStates_21 (c_X12_orderAt (gk hX) (gl hX) x3 M _ er_4) kX12_orderAt sX12_orderAt w_1786 rfl rfl rfl (Nat.le_of_ble_eq_true rfl) z0 ?_
      refine x_iconst hX dX12_setsStates_24 ?_
      refine x_iadd hX dX12_setsStates_25 ?_
      refine x_iloadn hX dX12_setsStates_26 rfl ?_
      obtain ⟨b_7, h⟩ := gi_of h
      obtain ⟨M_6, eM_6, h⟩ := bnd_of h
      refine x_iast hX dX12_setsStates_27 (st140 hs) b_7 rfl (x_meq eM_6 ?_)
      exact x_weak [true, true, true, true] rfl (tj_X12_setsStates_28_2 hX hs x1 x2 x3 M_6 o h hP hE hR)
  · replace h := (if_neg hc).symm.trans h
    exact x_weak [false, false, false, false] rfl (hE M (Option.some.inj h).symm)
set_option maxRecDepth 100000 in
set_option maxHeartbeats 4000000 in
theorem c_X12_setsStates {l : Launch} {G : Gx} (hG : GOK G) (hl : l.stackTraces = false) (hs : SOK G)  (x1 : Int) (x2 : Int) (M : Mem) (Mr : Mem) (h : f_X12_setsStates x1 x2 M = some Mr) : Cn l G mX12_setsStates 2 [vr G 139, vi x1, vi x2] M none Mr := by
  refine Cn_of2 (ls := [some (vr G 139), some (vi x1), some (vi x2), none]) hG hl kX12_setsStates rfl (Nat.le_of_ble_eq_true rfl) rfl rfl rfl rfl rfl (fun X eG el hX => ?_)
  subst eG; subst el
  unfold f_X12_setsStates at h
  refine x_iconst hX dX12_setsStates_0 ?_
  refine x_istoren (ls' := [some (vr (xG X) 139), some (vi x1), some (vi x2), some (vi 0)]) hX dX12_setsStates_1 rfl rfl rfl ?_
  refine x_weak (ls' := [some (vr (xG X) 139), some (vi x1), some (vi x2), some (vi 0)]) [true, true, true, true] rfl ?_
  refine lp_use (x := (0, M)) (P := fun x => V X 0 0 (Qn X none Mr) 2 [some (vr (xG X) 139), some (vi x1), some (vi x2), some (vi x.1)] [] x.2) (PE := fun z_8 => V X 0 0 (Qn X none Mr) 34 [none, none, none, none] [] z_8) (PR := fun q => (Qn X none Mr) = Qn X none q) h (fun x o hh hP hE hR => ts_X12_setsStates_2 hX hs x1 x2 x.1 x.2 o hh hP hE hR) (fun z_8 h => ?_) (fun q h => ?_)
  · show V X 0 0 (Qn X none Mr) 34 [none, none, none, none] [] z_8
    cases h
    exact x_vret hX dX12_setsStates_34 rfl
  · cases h; rfl
set_option maxRecDepth 100000 in
set_option maxHeartbeats 4000000 in
theorem c_X12_behind {l : Launch} {G : Gx} (hG : GOK G) (hl : l.stackTraces = false) (hs : SOK G)  (x1 : Int) (M : Mem) (r : Int) (h : f_X12_behind x1 M = some r) : Cn l G mX12_behind 2 [vr G 139, vi x1] M (some (vi r)) M := by
  refine Cn_of2 (ls := [some (vr G 139), some (vi x1)]) hG hl kX12_behind rfl (Nat.le_of_ble_eq_true rfl) rfl rfl rfl rfl rfl (fun X eG el hX => ?_)
  subst eG; subst el
  unfold f_X12_behind at h
  refine x_iloadn hX dX12_behind_0 rfl ?_
  refine x_aloadn hX dX12_behind_1 rfl ?_
  obtain ⟨r_1, er_1, h⟩ := cl1_of h
  refine x_callVi (t := 11) (As := []) (rest := [vi x1]) hX dX12_behind_2 (c_X12_zones (gk hX) (gl hX) hs M _ er_1) kX12_zones vX12_zones w_1971 (st139 hs) rfl rfl rfl rfl (Nat.le_of_ble_eq_true rfl) z0 ?_
  refine x_iconst hX dX12_behind_5 ?_
  refine x_isub hX dX12_behind_6 ?_
  refine x_icmp_ne (tgt := 19) hX dX12_behind_7 (by decide) rfl rfl (fun hc => ?_) (fun hc => ?_)
  · replace h := (if_pos hc).symm.trans h
    refine x_aloadn hX dX12_behind_10 rfl ?_
    refine x_getRj (j := 140) hX dX12_behind_11 fl_X12_7 rfl (st139 hs) rfl ?_
    refine x_iconst hX dX12_behind_14 ?_
    refine x_iald hX dX12_behind_15 (st140 hs) inc_0_469 ixc_0 ?_
    refine x_goto (tgt := 26) hX dX12_behind_16 (by decide) ?_
    cases h
    exact x_iret hX dX12_behind_26 rfl
  · replace h := (if_neg hc).symm.trans h
    refine x_aloadn hX dX12_behind_19 rfl ?_
    refine x_iloadn hX dX12_behind_20 rfl ?_
    refine x_iconst hX dX12_behind_21 ?_
    refine x_iadd hX dX12_behind_22 ?_
    obtain ⟨r_3, er_3, h⟩ := cl1_of h
    refine x_callVi (t := 11) (As := [vi (x1 + 1)]) (rest := []) hX dX12_behind_23 (c_X12_firstOf (gk hX) (gl hX) hs (x1 + 1) M _ er_3) kX12_firstOf vX12_firstOf w_1983 (st139 hs) rfl rfl rfl rfl (Nat.le_of_ble_eq_true rfl) z0 ?_
    cases h
    exact x_iret hX dX12_behind_26 rfl
set_option maxRecDepth 100000 in
set_option maxHeartbeats 4000000 in
theorem tj_X12_seeksGap_71_14 {X : Cxt} (hX : Gd X RX12 cX12_seeksGap 4 (none) 2) (hs : SOK (xG X))   (x1 : Int) (x2 : Int) (x3 : Int) (M : Mem) {Q : State → Prop} (o : (Int × Int × Mem) ⊕ ((Mem) ⊕ (Mem))) (h : j_X12_seeksGap_71_14 x1 x2 x3 M = some o) (hP : ∀ y, o = .inl y → V X 0 0 Q 14 [some (vr (xG X) 139), some (vi x1), some (vi y.1), some (vi y.2.1)] [] y.2.2) (hE : ∀ z, o = .inr (.inl z) → V X 0 0 Q 77 [none, none, none, none] [] z) (hR : ∀ q, o = .inr (.inr q) → Q = Qn X none q) : V X 0 0 Q 71 [some (vr (xG X) 139), some (vi x1), some (vi x2), some (vi x3)] [] M := by
  unfold j_X12_seeksGap_71_14 at h
  obtain ⟨x3_8, ex3_8, h⟩ := bnd_of h
  refine x_iinc (ls' := [some (vr (xG X) 139), some (vi x1), some (vi x2), some (vi x3_8)]) hX dX12_seeksGap_71 rfl rfl ex3_8 rfl ?_
  refine x_goto (tgt := 14) hX dX12_seeksGap_74 (by decide) ?_
  exact x_weak [true, true, true, true] rfl (hP (x2, x3_8, M) (Option.some.inj h).symm)
set_option maxRecDepth 100000 in
set_option maxHeartbeats 4000000 in
theorem tj_X12_seeksGap_69_14 {X : Cxt} (hX : Gd X RX12 cX12_seeksGap 4 (none) 2) (hs : SOK (xG X))   (x1 : Int) (x3 : Int) (M : Mem) {Q : State → Prop} (o : (Int × Int × Mem) ⊕ ((Mem) ⊕ (Mem))) (h : j_X12_seeksGap_69_14 x1 x3 M = some o) (hP : ∀ y, o = .inl y → V X 0 0 Q 14 [some (vr (xG X) 139), some (vi x1), some (vi y.1), some (vi y.2.1)] [] y.2.2) (hE : ∀ z, o = .inr (.inl z) → V X 0 0 Q 77 [none, none, none, none] [] z) (hR : ∀ q, o = .inr (.inr q) → Q = Qn X none q) : V X 0 0 Q 69 [some (vr (xG X) 139), some (vi x1), none, some (vi x3)] [] M := by
  unfold j_X12_seeksGap_69_14 at h
  refine x_iloadn hX dX12_seeksGap_69 rfl ?_
  refine x_istoren (ls' := [some (vr (xG X) 139), some (vi x1), some (vi x3), some (vi x3)]) hX dX12_seeksGap_70 rfl rfl rfl ?_
  exact x_weak [true, true, true, true] rfl (tj_X12_seeksGap_71_14 hX hs x1 x3 x3 M o h hP hE hR)
set_option maxRecDepth 100000 in
set_option maxHeartbeats 4000000 in
theorem tj_X12_seeksGap_47_14 {X : Cxt} (hX : Gd X RX12 cX12_seeksGap 4 (none) 2) (hs : SOK (xG X))   (x1 : Int) (x2 : Int) (x3 : Int) (M : Mem) {Q : State → Prop} (o : (Int × Int × Mem) ⊕ ((Mem) ⊕ (Mem))) (h : j_X12_seeksGap_47_14 x1 x2 x3 M = some o) (hP : ∀ y, o = .inl y → V X 0 0 Q 14 [some (vr (xG X) 139), some (vi x1), some (vi y.1), some (vi y.2.1)] [] y.2.2) (hE : ∀ z, o = .inr (.inl z) → V X 0 0 Q 77 [none, none, none, none] [] z) (hR : ∀ q, o = .inr (.inr q) → Q = Qn X none q) : V X 0 0 Q 47 [some (vr (xG X) 139), some (vi x1), some (vi x2), some (vi x3)] [] M := by
  unfold j_X12_seeksGap_47_14 at h
  refine x_iloadn hX dX12_seeksGap_47 rfl ?_
  refine x_iloadn hX dX12_seeksGap_48 rfl ?_
  refine x_isub hX dX12_seeksGap_49 ?_
  refine x_aloadn hX dX12_seeksGap_50 rfl ?_
  refine x_getI hX dX12_seeksGap_51 fl_X12_202 rfl (st139 hs) ?_
  refine x_icmp_le (tgt := 69) hX dX12_seeksGap_54 (by decide) rfl rfl (fun hc => ?_) (fun hc => ?_)
  · replace h := (if_pos hc).symm.trans h
    refine x_aloadn hX dX12_seeksGap_57 rfl ?_
    refine x_iloadn hX dX12_seeksGap_58 rfl ?_
    obtain ⟨M_9, eM_9, h⟩ := bnd_of h
    refine x_putI hX dX12_seeksGap_59 fp_X12_199 rfl (st139 hs) (x_meq eM_9 ?_)
    refine x_aloadn hX dX12_seeksGap_62 rfl ?_
    refine x_iloadn hX dX12_seeksGap_63 rfl ?_
    refine x_iloadn hX dX12_seeksGap_64 rfl ?_
    refine x_isub hX dX12_seeksGap_65 ?_
    obtain ⟨M_10, eM_10, h⟩ := bnd_of h
    refine x_putI hX dX12_seeksGap_66 fp_X12_202 rfl (st139 hs) (x_meq eM_10 ?_)
    exact x_weak [true, true, false, true] rfl (tj_X12_seeksGap_69_14 hX hs x1 x3 M_10 o h hP hE hR)
  · replace h := (if_neg hc).symm.trans h
    exact x_weak [true, true, false, true] rfl (tj_X12_seeksGap_69_14 hX hs x1 x3 M o h hP hE hR)
set_option maxRecDepth 100000 in
set_option maxHeartbeats 4000000 in
theorem ts_X12_seeksGap_14 {X : Cxt} (hX : Gd X RX12 cX12_seeksGap 4 (none) 2) (hs : SOK (xG X))  (x1 : Int) (x2 : Int) (x3 : Int) (M : Mem) {Q : State → Prop} (o : (Int × Int × Mem) ⊕ ((Mem) ⊕ (Mem))) (h : s_X12_seeksGap_14 x1 x2 x3 M = some o) (hP : ∀ y, o = .inl y → V X 0 0 Q 14 [some (vr (xG X) 139), some (vi x1), some (vi y.1), some (vi y.2.1)] [] y.2.2) (hE : ∀ z, o = .inr (.inl z) → V X 0 0 Q 77 [none, none, none, none] [] z) (hR : ∀ q, o = .inr (.inr q) → Q = Qn X none q) : V X 0 0 Q 14 [some (vr (xG X) 139), some (vi x1), some (vi x2), some (vi x3)] [] M := by
  unfold s_X12_seeksGap_14 at h
  refine x_iloadn hX dX12_seeksGap_14 rfl ?_
  refine x_aloadn hX dX12_seeksGap_15 rfl ?_
  obtain ⟨r_3, er_3, h⟩ := cl1_of h
  refine x_callVi (t := 11) (As := []) (rest := [vi x3]) hX dX12_seeksGap_16 (c_X12_through (gk hX) (gl hX) hs M _ er_3) kX12_through vX12_through w_2003 (st139 hs) rfl rfl rfl rfl (Nat.le_of_ble_eq_true rfl) z0 ?_
  refine x_icmp_gt (tgt := 77) hX dX12_seeksGap_19 (by decide) rfl rfl (fun hc => ?_) (fun hc => ?_)
  · replace h := (if_pos hc).symm.trans h
    exact x_weak [false, false, false, false] rfl (hE M (Option.some.inj h).symm)
  · replace h := (if_neg hc).symm.trans h
    refine x_iloadn hX dX12_seeksGap_22 rfl ?_
    refine x_aloadn hX dX12_seeksGap_23 rfl ?_
    obtain ⟨r_5, er_5, h⟩ := cl1_of h
    refine x_callVi (t := 11) (As := []) (rest := [vi x3]) hX dX12_seeksGap_24 (c_X12_through (gk hX) (gl hX) hs M _ er_5) kX12_through vX12_through w_2003 (st139 hs) rfl rfl rfl rfl (Nat.le_of_ble_eq_true rfl) z0 ?_
    refine x_icmp_ge (tgt := 47) hX dX12_seeksGap_27 (by decide) rfl rfl (fun hc => ?_) (fun hc => ?_)
    · replace h := (if_pos hc).symm.trans h
      refine x_aloadn hX dX12_seeksGap_30 rfl ?_
      refine x_getRj (j := 144) hX dX12_seeksGap_31 fl_X12_23 rfl (st139 hs) rfl ?_
      refine x_bipush hX dX12_seeksGap_34 bp_21 ?_
      refine x_iloadn hX dX12_seeksGap_36 rfl ?_
      refine x_imul hX dX12_seeksGap_37 ?_
      refine x_iloadn hX dX12_seeksGap_38 rfl ?_
      refine x_iadd hX dX12_seeksGap_39 ?_
      obtain ⟨b_7, h⟩ := gi_of h
      refine x_zald hX dX12_seeksGap_40 (st144 hs) b_7 rfl ?_
      refine x_if_ne (tgt := 47) hX dX12_seeksGap_41 (by decide) rfl (fun hc => ?_) (fun hc => ?_)
      · replace h := (if_pos hc).symm.trans h
        refine x_goto (tgt := 71) hX dX12_seeksGap_44 (by decide) ?_
        exact x_weak [true, true, true, true] rfl (tj_X12_seeksGap_71_14 hX hs x1 x2 x3 M o h hP hE hR)
      · replace h := (if_neg hc).symm.trans h
        exact x_weak [true, true, true, true] rfl (tj_X12_seeksGap_47_14 hX hs x1 x2 x3 M o h hP hE hR)
    · replace h := (if_neg hc).symm.trans h
      exact x_weak [true, true, true, true] rfl (tj_X12_seeksGap_47_14 hX hs x1 x2 x3 M o h hP hE hR)
set_option maxRecDepth 100000 in
set_option maxHeartbeats 4000000 in
theorem c_X12_seeksGap {l : Launch} {G : Gx} (hG : GOK G) (hl : l.stackTraces = false) (hs : SOK G)  (x1 : Int) (M : Mem) (Mr : Mem) (h : f_X12_seeksGap x1 M = some Mr) : Cn l G mX12_seeksGap 2 [vr G 139, vi x1] M none Mr := by
  refine Cn_of2 (ls := [some (vr G 139), some (vi x1), none, none]) hG hl kX12_seeksGap rfl (Nat.le_of_ble_eq_true rfl) rfl rfl rfl rfl rfl (fun X eG el hX => ?_)
  subst eG; subst el
  unfold f_X12_seeksGap at h
  refine x_aloadn hX dX12_seeksGap_0 rfl ?_
  refine x_iconst hX dX12_seeksGap_1 ?_
  obtain ⟨M_1, eM_1, h⟩ := bnd_of h
  refine x_putI hX dX12_seeksGap_2 fp_X12_199 rfl (st139 hs) (x_meq eM_1 ?_)
  refine x_aloadn hX dX12_seeksGap_5 rfl ?_
  refine x_iconst hX dX12_seeksGap_6 ?_
  obtain ⟨M_2, eM_2, h⟩ := bnd_of h
  refine x_putI hX dX12_seeksGap_7 fp_X12_202 rfl (st139 hs) (x_meq eM_2 ?_)
  refine x_iconst hX dX12_seeksGap_10 ?_
  refine x_istoren (ls' := [some (vr (xG X) 139), some (vi x1), some (vi 0), none]) hX dX12_seeksGap_11 rfl rfl rfl ?_
  refine x_iconst hX dX12_seeksGap_12 ?_
  refine x_istoren (ls' := [some (vr (xG X) 139), some (vi x1), some (vi 0), some (vi 1)]) hX dX12_seeksGap_13 rfl rfl rfl ?_
  refine x_weak (ls' := [some (vr (xG X) 139), some (vi x1), some (vi 0), some (vi 1)]) [true, true, true, true] rfl ?_
  refine lp_use (x := (0, 1, M_2)) (P := fun x => V X 0 0 (Qn X none Mr) 14 [some (vr (xG X) 139), some (vi x1), some (vi x.1), some (vi x.2.1)] [] x.2.2) (PE := fun z_11 => V X 0 0 (Qn X none Mr) 77 [none, none, none, none] [] z_11) (PR := fun q => (Qn X none Mr) = Qn X none q) h (fun x o hh hP hE hR => ts_X12_seeksGap_14 hX hs x1 x.1 x.2.1 x.2.2 o hh hP hE hR) (fun z_11 h => ?_) (fun q h => ?_)
  · show V X 0 0 (Qn X none Mr) 77 [none, none, none, none] [] z_11
    cases h
    exact x_vret hX dX12_seeksGap_77 rfl
  · cases h; rfl
set_option maxRecDepth 100000 in
set_option maxHeartbeats 4000000 in
theorem tj_X12_combinedBy_93_7 {X : Cxt} (hX : Gd X RX12 cX12_combinedBy 6 (some .int) 2) (hs : SOK (xG X))   (x1 : Int) (x3 : Int) (x4 : Int) (y0 : Int) (M : Mem) {Q : State → Prop} (o : (Int × Int × Int) ⊕ ((Int × Int) ⊕ (Int))) (h : j_X12_combinedBy_93_7 x1 x3 x4 y0 M = some o) (hP : ∀ y, o = .inl y → V X 0 0 Q 7 [some (vr (xG X) 139), some (vi x1), some (vi y.1), some (vi y.2.1), some (vi y.2.2), none] [] M) (hE : ∀ z, o = .inr (.inl z) → V X 0 0 Q 100 [none, none, some (vi z.1), some (vi z.2), none, none] [] M) (hR : ∀ q, o = .inr (.inr q) → Q = Qn X (some (vi q)) M) : V X 0 0 Q 93 [some (vr (xG X) 139), some (vi x1), none, some (vi x3), some (vi x4), none] [vi y0] M := by
  unfold j_X12_combinedBy_93_7 at h
  refine x_istoren (ls' := [some (vr (xG X) 139), some (vi x1), some (vi y0), some (vi x3), some (vi x4), none]) hX dX12_combinedBy_93 rfl rfl rfl ?_
  obtain ⟨x4_7, ex4_7, h⟩ := bnd_of h
  refine x_iinc (ls' := [some (vr (xG X) 139), some (vi x1), some (vi y0), some (vi x3), some (vi x4_7), none]) hX dX12_combinedBy_94 rfl rfl ex4_7 rfl ?_
  refine x_goto (tgt := 7) hX dX12_combinedBy_97 (by decide) ?_
  exact x_weak [true, true, true, true, true, false] rfl (hP (y0, x3, x4_7) (Option.some.inj h).symm)
set_option maxRecDepth 100000 in
set_option maxHeartbeats 4000000 in
theorem tj_X12_combinedBy_80_7 {X : Cxt} (hX : Gd X RX12 cX12_combinedBy 6 (some .int) 2) (hs : SOK (xG X))   (x1 : Int) (x2 : Int) (x4 : Int) (x5 : Int) (y0 : Int) (y1 : Int) (M : Mem) {Q : State → Prop} (o : (Int × Int × Int) ⊕ ((Int × Int) ⊕ (Int))) (h : j_X12_combinedBy_80_7 x1 x2 x4 x5 y0 y1 M = some o) (hP : ∀ y, o = .inl y → V X 0 0 Q 7 [some (vr (xG X) 139), some (vi x1), some (vi y.1), some (vi y.2.1), some (vi y.2.2), none] [] M) (hE : ∀ z, o = .inr (.inl z) → V X 0 0 Q 100 [none, none, some (vi z.1), some (vi z.2), none, none] [] M) (hR : ∀ q, o = .inr (.inr q) → Q = Qn X (some (vi q)) M) : V X 0 0 Q 80 [some (vr (xG X) 139), some (vi x1), some (vi x2), none, some (vi x4), some (vi x5)] [vi y1, vi y0] M := by
  unfold j_X12_combinedBy_80_7 at h
  refine x_iadd hX dX12_combinedBy_80 ?_
  obtain ⟨x3_6, ex3_6, h⟩ := bnd_of h
  refine x_istoren (ls' := [some (vr (xG X) 139), some (vi x1), some (vi x2), some (vi x3_6), some (vi x4), some (vi x5)]) hX dX12_combinedBy_81 rfl ex3_6 rfl ?_
  refine x_iloadn hX dX12_combinedBy_82 rfl ?_
  refine x_iload hX dX12_combinedBy_83 rfl ?_
  refine x_icmp_eq (tgt := 92) hX dX12_combinedBy_85 (by decide) rfl rfl (fun hc => ?_) (fun hc => ?_)
  · replace h := (if_pos hc).symm.trans h
    refine x_iconst hX dX12_combinedBy_92 ?_
    exact x_weak [true, true, false, true, true, false] rfl (tj_X12_combinedBy_93_7 hX hs x1 x3_6 x4 0 M o h hP hE hR)
  · replace h := (if_neg hc).symm.trans h
    refine x_iconst hX dX12_combinedBy_88 ?_
    refine x_goto (tgt := 93) hX dX12_combinedBy_89 (by decide) ?_
    exact x_weak [true, true, false, true, true, false] rfl (tj_X12_combinedBy_93_7 hX hs x1 x3_6 x4 1 M o h hP hE hR)
set_option maxRecDepth 100000 in
set_option maxHeartbeats 4000000 in
theorem tj_X12_combinedBy_79_7 {X : Cxt} (hX : Gd X RX12 cX12_combinedBy 6 (some .int) 2) (hs : SOK (xG X))   (x1 : Int) (x2 : Int) (x4 : Int) (x5 : Int) (y0 : Int) (y1 : Int) (y2 : Int) (M : Mem) {Q : State → Prop} (o : (Int × Int × Int) ⊕ ((Int × Int) ⊕ (Int))) (h : j_X12_combinedBy_79_7 x1 x2 x4 x5 y0 y1 y2 M = some o) (hP : ∀ y, o = .inl y → V X 0 0 Q 7 [some (vr (xG X) 139), some (vi x1), some (vi y.1), some (vi y.2.1), some (vi y.2.2), none] [] M) (hE : ∀ z, o = .inr (.inl z) → V X 0 0 Q 100 [none, none, some (vi z.1), some (vi z.2), none, none] [] M) (hR : ∀ q, o = .inr (.inr q) → Q = Qn X (some (vi q)) M) : V X 0 0 Q 79 [some (vr (xG X) 139), some (vi x1), some (vi x2), none, some (vi x4), some (vi x5)] [vi y2, vi y1, vi y0] M := by
  unfold j_X12_combinedBy_79_7 at h
  refine x_imul hX dX12_combinedBy_79 ?_
  exact x_weak [true, true, true, false, true, true] rfl (tj_X12_combinedBy_80_7 hX hs x1 x2 x4 x5 y0 (y1 * y2) M o h hP hE hR)
set_option maxRecDepth 100000 in
set_option maxHeartbeats 4000000 in
theorem ts_X12_combinedBy_7 {X : Cxt} (hX : Gd X RX12 cX12_combinedBy 6 (some .int) 2) (hs : SOK (xG X))  (x1 : Int) (M : Mem) (x2 : Int) (x3 : Int) (x4 : Int) {Q : State → Prop} (o : (Int × Int × Int) ⊕ ((Int × Int) ⊕ (Int))) (h : s_X12_combinedBy_7 x1 M x2 x3 x4 = some o) (hP : ∀ y, o = .inl y → V X 0 0 Q 7 [some (vr (xG X) 139), some (vi x1), some (vi y.1), some (vi y.2.1), some (vi y.2.2), none] [] M) (hE : ∀ z, o = .inr (.inl z) → V X 0 0 Q 100 [none, none, some (vi z.1), some (vi z.2), none, none] [] M) (hR : ∀ q, o = .inr (.inr q) → Q = Qn X (some (vi q)) M) : V X 0 0 Q 7 [some (vr (xG X) 139), some (vi x1), some (vi x2), some (vi x3), some (vi x4), none] [] M := by
  unfold s_X12_combinedBy_7 at h
  refine x_iload hX dX12_combinedBy_7 rfl ?_
  refine x_aloadn hX dX12_combinedBy_9 rfl ?_
  refine x_getI hX dX12_combinedBy_10 fl_X12_190 rfl (st139 hs) ?_
  refine x_icmp_ge (tgt := 100) hX dX12_combinedBy_13 (by decide) rfl rfl (fun hc => ?_) (fun hc => ?_)
  · replace h := (if_pos hc).symm.trans h
    refine x_iloadn hX dX12_combinedBy_16 rfl ?_
    refine x_aloadn hX dX12_combinedBy_17 rfl ?_
    refine x_getI hX dX12_combinedBy_18 fl_X12_190 rfl (st139 hs) ?_
    refine x_iconst hX dX12_combinedBy_21 ?_
    refine x_isub hX dX12_combinedBy_22 ?_
    refine x_iload hX dX12_combinedBy_23 rfl ?_
    refine x_isub hX dX12_combinedBy_25 ?_
    obtain ⟨r_1, er_1, h⟩ := cl1_of h
    refine x_callSi (As := [vi x1, vi (((M 139 8) - 1) - x4)]) (rest := []) hX dX12_combinedBy_26 (c_X12_has (gk hX) (gl hX) x1 (((M 139 8) - 1) - x4) M _ er_1) kX12_has sX12_has w_1868 rfl rfl rfl (Nat.le_of_ble_eq_true rfl) z0 ?_
    refine x_istore (ls' := [some (vr (xG X) 139), some (vi x1), some (vi x2), some (vi x3), some (vi x4), some (vi r_1)]) hX dX12_combinedBy_29 rfl rfl rfl ?_
    refine x_iloadn hX dX12_combinedBy_31 rfl ?_
    refine x_iload hX dX12_combinedBy_32 rfl ?_
    refine x_if_eq (tgt := 44) hX dX12_combinedBy_34 (by decide) rfl (fun hc => ?_) (fun hc => ?_)
    · replace h := (if_pos hc).symm.trans h
      refine x_iconst hX dX12_combinedBy_44 ?_
      refine x_iloadn hX dX12_combinedBy_45 rfl ?_
      refine x_if_eq (tgt := 68) hX dX12_combinedBy_46 (by decide) rfl (fun hc => ?_) (fun hc => ?_)
      · replace h := (if_pos hc).symm.trans h
        refine x_aloadn hX dX12_combinedBy_68 rfl ?_
        refine x_aloadn hX dX12_combinedBy_69 rfl ?_
        refine x_getRj (j := 146) hX dX12_combinedBy_70 fl_X12_29 rfl (st139 hs) rfl ?_
        refine x_iload hX dX12_combinedBy_73 rfl ?_
        obtain ⟨b_3, h⟩ := gi_of h
        refine x_iald hX dX12_combinedBy_75 (st146 hs) b_3 rfl ?_
        obtain ⟨r_4, er_4, h⟩ := cl1_of h
        refine x_callVi (t := 11) (As := [vi (M 146 (ix x4))]) (rest := [vi 2, vi x3]) hX dX12_combinedBy_76 (c_X12_highest (gk hX) (gl hX) hs (M 146 (ix x4)) M _ er_4) kX12_highest vX12_highest w_1991 (st139 hs) rfl rfl rfl rfl (Nat.le_of_ble_eq_true rfl) z0 ?_
        exact x_weak [true, true, true, false, true, true] rfl (tj_X12_combinedBy_79_7 hX hs x1 x2 x4 r_1 x3 2 r_4 M o h hP hE hR)
      · replace h := (if_neg hc).symm.trans h
        refine x_aloadn hX dX12_combinedBy_49 rfl ?_
        obtain ⟨r_8, er_8, h⟩ := cl1_of h
        refine x_callVi (t := 11) (As := []) (rest := [vi 2, vi x3]) hX dX12_combinedBy_50 (c_X12_through (gk hX) (gl hX) hs M _ er_8) kX12_through vX12_through w_2003 (st139 hs) rfl rfl rfl rfl (Nat.le_of_ble_eq_true rfl) z0 ?_
        refine x_aloadn hX dX12_combinedBy_53 rfl ?_
        refine x_aloadn hX dX12_combinedBy_54 rfl ?_
        refine x_getRj (j := 146) hX dX12_combinedBy_55 fl_X12_29 rfl (st139 hs) rfl ?_
        refine x_iload hX dX12_combinedBy_58 rfl ?_
        obtain ⟨b_10, h⟩ := gi_of h
        refine x_iald hX dX12_combinedBy_60 (st146 hs) b_10 rfl ?_
        obtain ⟨r_11, er_11, h⟩ := cl1_of h
        refine x_callVi (t := 11) (As := [vi (M 146 (ix x4))]) (rest := [vi r_8, vi 2, vi x3]) hX dX12_combinedBy_61 (c_X12_lowest (gk hX) (gl hX) hs (M 146 (ix x4)) M _ er_11) kX12_lowest vX12_lowest w_2023 (st139 hs) rfl rfl rfl rfl (Nat.le_of_ble_eq_true rfl) z0 ?_
        refine x_isub hX dX12_combinedBy_64 ?_
        refine x_goto (tgt := 79) hX dX12_combinedBy_65 (by decide) ?_
        exact x_weak [true, true, true, false, true, true] rfl (tj_X12_combinedBy_79_7 hX hs x1 x2 x4 r_1 x3 2 (r_8 - r_11) M o h hP hE hR)
    · replace h := (if_neg hc).symm.trans h
      refine x_aloadn hX dX12_combinedBy_37 rfl ?_
      obtain ⟨r_13, er_13, h⟩ := cl1_of h
      refine x_callVi (t := 11) (As := []) (rest := [vi x3]) hX dX12_combinedBy_38 (c_X12_through (gk hX) (gl hX) hs M _ er_13) kX12_through vX12_through w_2003 (st139 hs) rfl rfl rfl rfl (Nat.le_of_ble_eq_true rfl) z0 ?_
      refine x_goto (tgt := 80) hX dX12_combinedBy_41 (by decide) ?_
      exact x_weak [true, true, true, false, true, true] rfl (tj_X12_combinedBy_80_7 hX hs x1 x2 x4 r_1 x3 r_13 M o h hP hE hR)
  · replace h := (if_neg hc).symm.trans h
    exact x_weak [false, false, true, true, false, false] rfl (hE (x2, x3) (Option.some.inj h).symm)
set_option maxRecDepth 100000 in
set_option maxHeartbeats 4000000 in
theorem c_X12_combinedBy {l : Launch} {G : Gx} (hG : GOK G) (hl : l.stackTraces = false) (hs : SOK G)  (x1 : Int) (M : Mem) (r : Int) (h : f_X12_combinedBy x1 M = some r) : Cn l G mX12_combinedBy 2 [vr G 139, vi x1] M (some (vi r)) M := by
  refine Cn_of2 (ls := [some (vr G 139), some (vi x1), none, none, none, none]) hG hl kX12_combinedBy rfl (Nat.le_of_ble_eq_true rfl) rfl rfl rfl rfl rfl (fun X eG el hX => ?_)
  subst eG; subst el
  unfold f_X12_combinedBy at h
  refine x_iconst hX dX12_combinedBy_0 ?_
  refine x_istoren (ls' := [some (vr (xG X) 139), some (vi x1), some (vi 0), none, none, none]) hX dX12_combinedBy_1 rfl rfl rfl ?_
  refine x_iconst hX dX12_combinedBy_2 ?_
  refine x_istoren (ls' := [some (vr (xG X) 139), some (vi x1), some (vi 0), some (vi 0), none, none]) hX dX12_combinedBy_3 rfl rfl rfl ?_
  refine x_iconst hX dX12_combinedBy_4 ?_
  refine x_istore (ls' := [some (vr (xG X) 139), some (vi x1), some (vi 0), some (vi 0), some (vi 0), none]) hX dX12_combinedBy_5 rfl rfl rfl ?_
  refine x_weak (ls' := [some (vr (xG X) 139), some (vi x1), some (vi 0), some (vi 0), some (vi 0), none]) [true, true, true, true, true, false] rfl ?_
  refine lp_use (x := (0, 0, 0)) (P := fun x => V X 0 0 (Qn X (some (vi r)) M) 7 [some (vr (xG X) 139), some (vi x1), some (vi x.1), some (vi x.2.1), some (vi x.2.2), none] [] M) (PE := fun z_15 => V X 0 0 (Qn X (some (vi r)) M) 100 [none, none, some (vi z_15.1), some (vi z_15.2), none, none] [] M) (PR := fun q => (Qn X (some (vi r)) M) = Qn X (some (vi q)) M) h (fun x o hh hP hE hR => ts_X12_combinedBy_7 hX hs x1 M x.1 x.2.1 x.2.2 o hh hP hE hR) (fun z_15 h => ?_) (fun q h => ?_)
  · show V X 0 0 (Qn X (some (vi r)) M) 100 [none, none, some (vi z_15.1), some (vi z_15.2), none, none] [] M
    refine x_iloadn hX dX12_combinedBy_100 rfl ?_
    refine x_if_eq (tgt := 108) hX dX12_combinedBy_101 (by decide) rfl (fun hc => ?_) (fun hc => ?_)
    · replace h := (if_pos hc).symm.trans h
      refine x_iloadn hX dX12_combinedBy_108 rfl ?_
      cases h
      exact x_iret hX dX12_combinedBy_109 rfl
    · replace h := (if_neg hc).symm.trans h
      refine x_iconst hX dX12_combinedBy_104 ?_
      refine x_goto (tgt := 109) hX dX12_combinedBy_105 (by decide) ?_
      cases h
      exact x_iret hX dX12_combinedBy_109 rfl
  · cases h; rfl
set_option maxRecDepth 100000 in
set_option maxHeartbeats 4000000 in
theorem tj_X12_shapeOf_52_4 {X : Cxt} (hX : Gd X RX12 cX12_shapeOf 3 (some .int) 2) (hs : SOK (xG X))   (x2 : Int) (y0 : Int) (y1 : Int) (M : Mem) {Q : State → Prop} (o : (Int × Int) ⊕ ((Int) ⊕ (Int))) (h : j_X12_shapeOf_52_4 x2 y0 y1 M = some o) (hP : ∀ y, o = .inl y → V X 0 0 Q 4 [some (vr (xG X) 139), some (vi y.1), some (vi y.2)] [] M) (hE : ∀ z, o = .inr (.inl z) → V X 0 0 Q 60 [none, some (vi z), none] [] M) (hR : ∀ q, o = .inr (.inr q) → Q = Qn X (some (vi q)) M) : V X 0 0 Q 52 [some (vr (xG X) 139), none, some (vi x2)] [vi y1, vi y0] M := by
  unfold j_X12_shapeOf_52_4 at h
  refine x_iadd hX dX12_shapeOf_52 ?_
  obtain ⟨x1_4, ex1_4, h⟩ := bnd_of h
  refine x_istoren (ls' := [some (vr (xG X) 139), some (vi x1_4), some (vi x2)]) hX dX12_shapeOf_53 rfl ex1_4 rfl ?_
  obtain ⟨x2_5, ex2_5, h⟩ := bnd_of h
  refine x_iinc (ls' := [some (vr (xG X) 139), some (vi x1_4), some (vi x2_5)]) hX dX12_shapeOf_54 rfl rfl ex2_5 rfl ?_
  refine x_goto (tgt := 4) hX dX12_shapeOf_57 (by decide) ?_
  exact x_weak [true, true, true] rfl (hP (x1_4, x2_5) (Option.some.inj h).symm)
set_option maxRecDepth 100000 in
set_option maxHeartbeats 4000000 in
theorem tj_X12_shapeOf_48_4 {X : Cxt} (hX : Gd X RX12 cX12_shapeOf 3 (some .int) 2) (hs : SOK (xG X))   (x2 : Int) (y0 : Int) (M : Mem) {Q : State → Prop} (o : (Int × Int) ⊕ ((Int) ⊕ (Int))) (h : j_X12_shapeOf_48_4 x2 y0 M = some o) (hP : ∀ y, o = .inl y → V X 0 0 Q 4 [some (vr (xG X) 139), some (vi y.1), some (vi y.2)] [] M) (hE : ∀ z, o = .inr (.inl z) → V X 0 0 Q 60 [none, some (vi z), none] [] M) (hR : ∀ q, o = .inr (.inr q) → Q = Qn X (some (vi q)) M) : V X 0 0 Q 48 [some (vr (xG X) 139), none, some (vi x2)] [vi y0] M := by
  unfold j_X12_shapeOf_48_4 at h
  refine x_aloadn hX dX12_shapeOf_48 rfl ?_
  obtain ⟨r_6, er_6, h⟩ := cl1_of h
  refine x_callVi (t := 11) (As := []) (rest := [vi y0]) hX dX12_shapeOf_49 (c_X12_through (gk hX) (gl hX) hs M _ er_6) kX12_through vX12_through w_2003 (st139 hs) rfl rfl rfl rfl (Nat.le_of_ble_eq_true rfl) z0 ?_
  exact x_weak [true, false, true] rfl (tj_X12_shapeOf_52_4 hX hs x2 y0 r_6 M o h hP hE hR)
set_option maxRecDepth 100000 in
set_option maxHeartbeats 4000000 in
theorem ts_X12_shapeOf_4 {X : Cxt} (hX : Gd X RX12 cX12_shapeOf 3 (some .int) 2) (hs : SOK (xG X))  (M : Mem) (x1 : Int) (x2 : Int) {Q : State → Prop} (o : (Int × Int) ⊕ ((Int) ⊕ (Int))) (h : s_X12_shapeOf_4 M x1 x2 = some o) (hP : ∀ y, o = .inl y → V X 0 0 Q 4 [some (vr (xG X) 139), some (vi y.1), some (vi y.2)] [] M) (hE : ∀ z, o = .inr (.inl z) → V X 0 0 Q 60 [none, some (vi z), none] [] M) (hR : ∀ q, o = .inr (.inr q) → Q = Qn X (some (vi q)) M) : V X 0 0 Q 4 [some (vr (xG X) 139), some (vi x1), some (vi x2)] [] M := by
  unfold s_X12_shapeOf_4 at h
  refine x_iloadn hX dX12_shapeOf_4 rfl ?_
  refine x_aloadn hX dX12_shapeOf_5 rfl ?_
  refine x_getI hX dX12_shapeOf_6 fl_X12_190 rfl (st139 hs) ?_
  refine x_icmp_ge (tgt := 60) hX dX12_shapeOf_9 (by decide) rfl rfl (fun hc => ?_) (fun hc => ?_)
  · replace h := (if_pos hc).symm.trans h
    refine x_iloadn hX dX12_shapeOf_12 rfl ?_
    refine x_iloadn hX dX12_shapeOf_13 rfl ?_
    refine x_aloadn hX dX12_shapeOf_14 rfl ?_
    refine x_getI hX dX12_shapeOf_15 fl_X12_190 rfl (st139 hs) ?_
    refine x_iconst hX dX12_shapeOf_18 ?_
    refine x_isub hX dX12_shapeOf_19 ?_
    refine x_icmp_ne (tgt := 48) hX dX12_shapeOf_20 (by decide) rfl rfl (fun hc => ?_) (fun hc => ?_)
    · replace h := (if_pos hc).symm.trans h
      refine x_aloadn hX dX12_shapeOf_23 rfl ?_
      refine x_getI hX dX12_shapeOf_24 fl_X12_190 rfl (st139 hs) ?_
      refine x_iconst hX dX12_shapeOf_27 ?_
      refine x_irem hX dX12_shapeOf_28 nz_2 ?_
      refine x_iconst hX dX12_shapeOf_29 ?_
      refine x_icmp_ne (tgt := 48) hX dX12_shapeOf_30 (by decide) rfl cw_1 (fun hc => ?_) (fun hc => ?_)
      · replace h := (if_pos hc).symm.trans h
        refine x_iconst hX dX12_shapeOf_33 ?_
        refine x_aloadn hX dX12_shapeOf_34 rfl ?_
        refine x_aloadn hX dX12_shapeOf_35 rfl ?_
        refine x_getRj (j := 146) hX dX12_shapeOf_36 fl_X12_29 rfl (st139 hs) rfl ?_
        refine x_iloadn hX dX12_shapeOf_39 rfl ?_
        obtain ⟨b_1, h⟩ := gi_of h
        refine x_iald hX dX12_shapeOf_40 (st146 hs) b_1 rfl ?_
        obtain ⟨r_2, er_2, h⟩ := cl1_of h
        refine x_callVi (t := 11) (As := [vi (M 146 (ix x2))]) (rest := [vi 2, vi x1]) hX dX12_shapeOf_41 (c_X12_highest (gk hX) (gl hX) hs (M 146 (ix x2)) M _ er_2) kX12_highest vX12_highest w_1991 (st139 hs) rfl rfl rfl rfl (Nat.le_of_ble_eq_true rfl) z0 ?_
        refine x_imul hX dX12_shapeOf_44 ?_
        refine x_goto (tgt := 52) hX dX12_shapeOf_45 (by decide) ?_
        exact x_weak [true, false, true] rfl (tj_X12_shapeOf_52_4 hX hs x2 x1 (2 * r_2) M o h hP hE hR)
      · replace h := (if_neg hc).symm.trans h
        exact x_weak [true, false, true] rfl (tj_X12_shapeOf_48_4 hX hs x2 x1 M o h hP hE hR)
    · replace h := (if_neg hc).symm.trans h
      exact x_weak [true, false, true] rfl (tj_X12_shapeOf_48_4 hX hs x2 x1 M o h hP hE hR)
  · replace h := (if_neg hc).symm.trans h
    exact x_weak [false, true, false] rfl (hE x1 (Option.some.inj h).symm)
set_option maxRecDepth 100000 in
set_option maxHeartbeats 4000000 in
theorem c_X12_shapeOf {l : Launch} {G : Gx} (hG : GOK G) (hl : l.stackTraces = false) (hs : SOK G)  (M : Mem) (r : Int) (h : f_X12_shapeOf M = some r) : Cn l G mX12_shapeOf 2 [vr G 139] M (some (vi r)) M := by
  refine Cn_of2 (ls := [some (vr G 139), none, none]) hG hl kX12_shapeOf rfl (Nat.le_of_ble_eq_true rfl) rfl rfl rfl rfl rfl (fun X eG el hX => ?_)
  subst eG; subst el
  unfold f_X12_shapeOf at h
  refine x_iconst hX dX12_shapeOf_0 ?_
  refine x_istoren (ls' := [some (vr (xG X) 139), some (vi 0), none]) hX dX12_shapeOf_1 rfl rfl rfl ?_
  refine x_iconst hX dX12_shapeOf_2 ?_
  refine x_istoren (ls' := [some (vr (xG X) 139), some (vi 0), some (vi 0)]) hX dX12_shapeOf_3 rfl rfl rfl ?_
  refine x_weak (ls' := [some (vr (xG X) 139), some (vi 0), some (vi 0)]) [true, true, true] rfl ?_
  refine lp_use (x := (0, 0)) (P := fun x => V X 0 0 (Qn X (some (vi r)) M) 4 [some (vr (xG X) 139), some (vi x.1), some (vi x.2)] [] M) (PE := fun z_8 => V X 0 0 (Qn X (some (vi r)) M) 60 [none, some (vi z_8), none] [] M) (PR := fun q => (Qn X (some (vi r)) M) = Qn X (some (vi q)) M) h (fun x o hh hP hE hR => ts_X12_shapeOf_4 hX hs M x.1 x.2 o hh hP hE hR) (fun z_8 h => ?_) (fun q h => ?_)
  · show V X 0 0 (Qn X (some (vi r)) M) 60 [none, some (vi z_8), none] [] M
    refine x_iloadn hX dX12_shapeOf_60 rfl ?_
    cases h
    exact x_iret hX dX12_shapeOf_61 rfl
  · cases h; rfl
set_option maxRecDepth 100000 in
set_option maxHeartbeats 4000000 in
theorem ts_X12_returnOf_4 {X : Cxt} (hX : Gd X RX12 cX12_returnOf 3 (some .int) 2) (hs : SOK (xG X))  (M : Mem) (x1 : Int) (x2 : Int) {Q : State → Prop} (o : (Int × Int) ⊕ ((Int) ⊕ (Int))) (h : s_X12_returnOf_4 M x1 x2 = some o) (hP : ∀ y, o = .inl y → V X 0 0 Q 4 [some (vr (xG X) 139), some (vi y.1), some (vi y.2)] [] M) (hE : ∀ z, o = .inr (.inl z) → V X 0 0 Q 33 [none, some (vi z), none] [] M) (hR : ∀ q, o = .inr (.inr q) → Q = Qn X (some (vi q)) M) : V X 0 0 Q 4 [some (vr (xG X) 139), some (vi x1), some (vi x2)] [] M := by
  unfold s_X12_returnOf_4 at h
  refine x_iloadn hX dX12_returnOf_4 rfl ?_
  refine x_aloadn hX dX12_returnOf_5 rfl ?_
  refine x_getI hX dX12_returnOf_6 fl_X12_190 rfl (st139 hs) ?_
  refine x_icmp_ge (tgt := 33) hX dX12_returnOf_9 (by decide) rfl rfl (fun hc => ?_) (fun hc => ?_)
  · replace h := (if_pos hc).symm.trans h
    refine x_iloadn hX dX12_returnOf_12 rfl ?_
    refine x_iconst hX dX12_returnOf_13 ?_
    refine x_aloadn hX dX12_returnOf_14 rfl ?_
    refine x_aloadn hX dX12_returnOf_15 rfl ?_
    refine x_getRj (j := 146) hX dX12_returnOf_16 fl_X12_29 rfl (st139 hs) rfl ?_
    refine x_iloadn hX dX12_returnOf_19 rfl ?_
    obtain ⟨b_1, h⟩ := gi_of h
    refine x_iald hX dX12_returnOf_20 (st146 hs) b_1 rfl ?_
    obtain ⟨r_2, er_2, h⟩ := cl1_of h
    refine x_callVi (t := 11) (As := [vi (M 146 (ix x2))]) (rest := [vi 2, vi x1]) hX dX12_returnOf_21 (c_X12_highest (gk hX) (gl hX) hs (M 146 (ix x2)) M _ er_2) kX12_highest vX12_highest w_1991 (st139 hs) rfl rfl rfl rfl (Nat.le_of_ble_eq_true rfl) z0 ?_
    refine x_imul hX dX12_returnOf_24 ?_
    refine x_iadd hX dX12_returnOf_25 ?_
    obtain ⟨x1_4, ex1_4, h⟩ := bnd_of h
    refine x_istoren (ls' := [some (vr (xG X) 139), some (vi x1_4), some (vi x2)]) hX dX12_returnOf_26 rfl ex1_4 rfl ?_
    obtain ⟨x2_5, ex2_5, h⟩ := bnd_of h
    refine x_iinc (ls' := [some (vr (xG X) 139), some (vi x1_4), some (vi x2_5)]) hX dX12_returnOf_27 rfl rfl ex2_5 rfl ?_
    refine x_goto (tgt := 4) hX dX12_returnOf_30 (by decide) ?_
    exact x_weak [true, true, true] rfl (hP (x1_4, x2_5) (Option.some.inj h).symm)
  · replace h := (if_neg hc).symm.trans h
    exact x_weak [false, true, false] rfl (hE x1 (Option.some.inj h).symm)
set_option maxRecDepth 100000 in
set_option maxHeartbeats 4000000 in
theorem c_X12_returnOf {l : Launch} {G : Gx} (hG : GOK G) (hl : l.stackTraces = false) (hs : SOK G)  (M : Mem) (r : Int) (h : f_X12_returnOf M = some r) : Cn l G mX12_returnOf 2 [vr G 139] M (some (vi r)) M := by
  refine Cn_of2 (ls := [some (vr G 139), none, none]) hG hl kX12_returnOf rfl (Nat.le_of_ble_eq_true rfl) rfl rfl rfl rfl rfl (fun X eG el hX => ?_)
  subst eG; subst el
  unfold f_X12_returnOf at h
  refine x_iconst hX dX12_returnOf_0 ?_
  refine x_istoren (ls' := [some (vr (xG X) 139), some (vi 0), none]) hX dX12_returnOf_1 rfl rfl rfl ?_
  refine x_iconst hX dX12_returnOf_2 ?_
  refine x_istoren (ls' := [some (vr (xG X) 139), some (vi 0), some (vi 0)]) hX dX12_returnOf_3 rfl rfl rfl ?_
  refine x_weak (ls' := [some (vr (xG X) 139), some (vi 0), some (vi 0)]) [true, true, true] rfl ?_
  refine lp_use (x := (0, 0)) (P := fun x => V X 0 0 (Qn X (some (vi r)) M) 4 [some (vr (xG X) 139), some (vi x.1), some (vi x.2)] [] M) (PE := fun z_6 => V X 0 0 (Qn X (some (vi r)) M) 33 [none, some (vi z_6), none] [] M) (PR := fun q => (Qn X (some (vi r)) M) = Qn X (some (vi q)) M) h (fun x o hh hP hE hR => ts_X12_returnOf_4 hX hs M x.1 x.2 o hh hP hE hR) (fun z_6 h => ?_) (fun q h => ?_)
  · show V X 0 0 (Qn X (some (vi r)) M) 33 [none, some (vi z_6), none] [] M
    refine x_iloadn hX dX12_returnOf_33 rfl ?_
    cases h
    exact x_iret hX dX12_returnOf_34 rfl
  · cases h; rfl
set_option maxRecDepth 100000 in
set_option maxHeartbeats 4000000 in
theorem tj_X12_setPolicy_15 {X : Cxt} (hX : Gd X RX12 cX12_setPolicy 3 (some .int) 2) (hs : SOK (xG X))   (x1 : Int) (y1 : Int) (M : Mem) (r : Int) (Mr : Mem) (h : j_X12_setPolicy_15 x1 y1 M = some (r, Mr)) : V X 0 0 (Qn X (some (vi r)) Mr) 15 [some (vr (xG X) 139), some (vi x1), none] [vi y1, vr (xG X) 139] M := by
  unfold j_X12_setPolicy_15 at h
  obtain ⟨M_3, eM_3, h⟩ := bnd_of h
  refine x_putI hX dX12_setPolicy_15 fp_X12_70 rfl (st139 hs) (x_meq eM_3 ?_)
  refine x_aloadn hX dX12_setPolicy_18 rfl ?_
  refine x_getI hX dX12_setPolicy_19 fl_X12_70 rfl (st139 hs) ?_
  refine x_if_le (tgt := 27) hX dX12_setPolicy_22 (by decide) rfl (fun hc => ?_) (fun hc => ?_)
  · replace h := (if_pos hc).symm.trans h
    refine x_iconst hX dX12_setPolicy_25 ?_
    cases h
    exact x_iret hX dX12_setPolicy_26 rfl
  · replace h := (if_neg hc).symm.trans h
    refine x_aloadn hX dX12_setPolicy_27 rfl ?_
    refine x_getRj (j := 140) hX dX12_setPolicy_28 fl_X12_7 rfl (st139 hs) rfl ?_
    refine x_bipush hX dX12_setPolicy_31 bp_6 ?_
    refine x_iald hX dX12_setPolicy_33 (st140 hs) inc_6_469 ixc_6 ?_
    obtain ⟨x2_4, ex2_4, h⟩ := bnd_of h
    refine x_istoren (ls' := [some (vr (xG X) 139), some (vi x1), some (vi x2_4)]) hX dX12_setPolicy_34 rfl ex2_4 rfl ?_
    refine x_aloadn hX dX12_setPolicy_35 rfl ?_
    refine x_getRj (j := 140) hX dX12_setPolicy_36 fl_X12_7 rfl (st139 hs) rfl ?_
    refine x_bipush hX dX12_setPolicy_39 bp_6 ?_
    refine x_iloadn hX dX12_setPolicy_41 rfl ?_
    obtain ⟨M_5, eM_5, h⟩ := bnd_of h
    refine x_iast hX dX12_setPolicy_42 (st140 hs) inc_6_469 ixc_6 (x_meq eM_5 ?_)
    refine x_iloadn hX dX12_setPolicy_43 rfl ?_
    cases h
    exact x_iret hX dX12_setPolicy_44 rfl
set_option maxRecDepth 100000 in
set_option maxHeartbeats 4000000 in
theorem c_X12_setPolicy {l : Launch} {G : Gx} (hG : GOK G) (hl : l.stackTraces = false) (hs : SOK G)  (x1 : Int) (M : Mem) (r : Int) (Mr : Mem) (h : f_X12_setPolicy x1 M = some (r, Mr)) : Cn l G mX12_setPolicy 2 [vr G 139, vi x1] M (some (vi r)) Mr := by
  refine Cn_of2 (ls := [some (vr G 139), some (vi x1), none]) hG hl kX12_setPolicy rfl (Nat.le_of_ble_eq_true rfl) rfl rfl rfl rfl rfl (fun X eG el hX => ?_)
  subst eG; subst el
  unfold f_X12_setPolicy at h
  refine x_aloadn hX dX12_setPolicy_0 rfl ?_
  refine x_iloadn hX dX12_setPolicy_1 rfl ?_
  refine x_iconst hX dX12_setPolicy_2 ?_
  refine x_iconst hX dX12_setPolicy_3 ?_
  obtain ⟨r_1, er_1, h⟩ := cl1_of h
  refine x_callSi (As := [vi x1, vi 0, vi 3]) (rest := [vr (xG X) 139]) hX dX12_setPolicy_4 (c_X12_in (gk hX) (gl hX) x1 0 3 M _ er_1) kX12_in sX12_in w_1735 rfl rfl rfl (Nat.le_of_ble_eq_true rfl) z0 ?_
  refine x_if_eq (tgt := 14) hX dX12_setPolicy_7 (by decide) rfl (fun hc => ?_) (fun hc => ?_)
  · replace h := (if_pos hc).symm.trans h
    refine x_iconst hX dX12_setPolicy_14 ?_
    exact x_weak [true, true, false] rfl (tj_X12_setPolicy_15 hX hs x1 1 M r Mr h)
  · replace h := (if_neg hc).symm.trans h
    refine x_iconst hX dX12_setPolicy_10 ?_
    refine x_goto (tgt := 15) hX dX12_setPolicy_11 (by decide) ?_
    exact x_weak [true, true, false] rfl (tj_X12_setPolicy_15 hX hs x1 0 M r Mr h)
