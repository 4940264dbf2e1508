-- written by wip/gen/emit.py: X12_thrown, X12_begins, X12_in, X12_has, X12_ones, X12_greater, X12_zones, X12_ofItem, X12_orderAt, X12_lineAt, X12_laysHall, X12_aisleCount, X12_adds, X12_itemCount, X12_orderCount, X12_removes, X12_batchCount, X12_firstOf, X12_lowest, X12_highest, X12_through, X12_common, X12_exchanges, X12_keepsBest, X12_appendText, X12_see, X12_fails, X12_isWell
set_option maxRecDepth 100000 in
set_option maxHeartbeats 4000000 in
theorem c_X12_thrown {l : Launch} {G : Gx} (hG : GOK G) (hl : l.stackTraces = false) (hs : SOK G)  (M : Mem) (r : Int) (h : f_X12_thrown M = some r) : Cn l G mX12_thrown 1 [vr G 139] M (some (vi r)) M := by
  refine Cn_of2 (ls := [some (vr G 139)]) hG hl kX12_thrown rfl (Nat.le_of_ble_eq_true rfl) rfl rfl rfl rfl rfl (fun X eG el hX => ?_)
  subst eG; subst el
  unfold f_X12_thrown at h
  refine x_aloadn hX dX12_thrown_0 rfl ?_
  refine x_getI hX dX12_thrown_1 fl_X12_70 rfl (st139 hs) ?_
  cases h
  exact x_iret hX dX12_thrown_4 rfl
set_option maxRecDepth 100000 in
set_option maxHeartbeats 4000000 in
theorem ts_X12_begins_2 {X : Cxt} (hX : Gd X RX12 cX12_begins 2 (none) 1) (hs : SOK (xG X))  (x1 : Int) (M : Mem) {Q : State → Prop} (o : (Int × Mem) ⊕ ((Mem) ⊕ (Mem))) (h : s_X12_begins_2 x1 M = some o) (hP : ∀ y, o = .inl y → V X 0 0 Q 2 [some (vr (xG X) 139), some (vi y.1)] [] y.2) (hE : ∀ z, o = .inr (.inl z) → V X 0 0 Q 22 [some (vr (xG X) 139), none] [] z) (hR : ∀ q, o = .inr (.inr q) → Q = Qn X none q) : V X 0 0 Q 2 [some (vr (xG X) 139), some (vi x1)] [] M := by
  unfold s_X12_begins_2 at h
  refine x_iloadn hX dX12_begins_2 rfl ?_
  refine x_sipush hX dX12_begins_3 sp_469 ?_
  refine x_icmp_ge (tgt := 22) hX dX12_begins_6 (by decide) rfl cw_469 (fun hc => ?_) (fun hc => ?_)
  · replace h := (if_pos hc).symm.trans h
    refine x_aloadn hX dX12_begins_9 rfl ?_
    refine x_getRj (j := 140) hX dX12_begins_10 fl_X12_7 rfl (st139 hs) rfl ?_
    refine x_iloadn hX dX12_begins_13 rfl ?_
    refine x_iconst hX dX12_begins_14 ?_
    obtain ⟨b_2, h⟩ := gi_of h
    obtain ⟨M_1, eM_1, h⟩ := bnd_of h
    refine x_iast hX dX12_begins_15 (st140 hs) b_2 rfl (x_meq eM_1 ?_)
    obtain ⟨x1_3, ex1_3, h⟩ := bnd_of h
    refine x_iinc (ls' := [some (vr (xG X) 139), some (vi x1_3)]) hX dX12_begins_16 rfl rfl ex1_3 rfl ?_
    refine x_goto (tgt := 2) hX dX12_begins_19 (by decide) ?_
    exact x_weak [true, true] rfl (hP (x1_3, M_1) (Option.some.inj h).symm)
  · replace h := (if_neg hc).symm.trans h
    exact x_weak [true, false] rfl (hE M (Option.some.inj h).symm)
set_option maxRecDepth 100000 in
set_option maxHeartbeats 4000000 in
theorem c_X12_begins {l : Launch} {G : Gx} (hG : GOK G) (hl : l.stackTraces = false) (hs : SOK G)  (M : Mem) (Mr : Mem) (h : f_X12_begins M = some Mr) : Cn l G mX12_begins 1 [vr G 139] M none Mr := by
  refine Cn_of2 (ls := [some (vr G 139), none]) hG hl kX12_begins rfl (Nat.le_of_ble_eq_true rfl) rfl rfl rfl rfl rfl (fun X eG el hX => ?_)
  subst eG; subst el
  unfold f_X12_begins at h
  refine x_iconst hX dX12_begins_0 ?_
  refine x_istoren (ls' := [some (vr (xG X) 139), some (vi 0)]) hX dX12_begins_1 rfl rfl rfl ?_
  refine x_weak (ls' := [some (vr (xG X) 139), some (vi 0)]) [true, true] rfl ?_
  refine lp_use (x := (0, M)) (P := fun x => V X 0 0 (Qn X none Mr) 2 [some (vr (xG X) 139), some (vi x.1)] [] x.2) (PE := fun z_4 => V X 0 0 (Qn X none Mr) 22 [some (vr (xG X) 139), none] [] z_4) (PR := fun q => (Qn X none Mr) = Qn X none q) h (fun x o hh hP hE hR => ts_X12_begins_2 hX hs x.1 x.2 o hh hP hE hR) (fun z_4 h => ?_) (fun q h => ?_)
  · show V X 0 0 (Qn X none Mr) 22 [some (vr (xG X) 139), none] [] z_4
    refine x_aloadn hX dX12_begins_22 rfl ?_
    refine x_getRj (j := 140) hX dX12_begins_23 fl_X12_7 rfl (st139 hs) rfl ?_
    refine x_iconst hX dX12_begins_26 ?_
    refine x_iconst hX dX12_begins_27 ?_
    obtain ⟨M_5, eM_5, h⟩ := bnd_of h
    refine x_iast hX dX12_begins_28 (st140 hs) inc_0_469 ixc_0 (x_meq eM_5 ?_)
    refine x_aloadn hX dX12_begins_29 rfl ?_
    refine x_getRj (j := 140) hX dX12_begins_30 fl_X12_7 rfl (st139 hs) rfl ?_
    refine x_iconst hX dX12_begins_33 ?_
    refine x_bipush hX dX12_begins_34 bp_10 ?_
    obtain ⟨M_6, eM_6, h⟩ := bnd_of h
    refine x_iast hX dX12_begins_36 (st140 hs) inc_1_469 ixc_1 (x_meq eM_6 ?_)
    refine x_aloadn hX dX12_begins_37 rfl ?_
    refine x_getRj (j := 140) hX dX12_begins_38 fl_X12_7 rfl (st139 hs) rfl ?_
    refine x_iconst hX dX12_begins_41 ?_
    refine x_iconst hX dX12_begins_42 ?_
    obtain ⟨M_7, eM_7, h⟩ := bnd_of h
    refine x_iast hX dX12_begins_43 (st140 hs) inc_2_469 ixc_2 (x_meq eM_7 ?_)
    refine x_aloadn hX dX12_begins_44 rfl ?_
    refine x_getRj (j := 140) hX dX12_begins_45 fl_X12_7 rfl (st139 hs) rfl ?_
    refine x_bipush hX dX12_begins_48 bp_7 ?_
    refine x_iconst hX dX12_begins_50 ?_
    obtain ⟨M_8, eM_8, h⟩ := bnd_of h
    refine x_iast hX dX12_begins_51 (st140 hs) inc_7_469 ixc_7 (x_meq eM_8 ?_)
    refine x_aloadn hX dX12_begins_52 rfl ?_
    refine x_getRj (j := 140) hX dX12_begins_53 fl_X12_7 rfl (st139 hs) rfl ?_
    refine x_bipush hX dX12_begins_56 bp_8 ?_
    refine x_iconst hX dX12_begins_58 ?_
    obtain ⟨M_9, eM_9, h⟩ := bnd_of h
    refine x_iast hX dX12_begins_59 (st140 hs) inc_8_469 ixc_8 (x_meq eM_9 ?_)
    refine x_aloadn hX dX12_begins_60 rfl ?_
    refine x_getRj (j := 140) hX dX12_begins_61 fl_X12_7 rfl (st139 hs) rfl ?_
    refine x_bipush hX dX12_begins_64 bp_9 ?_
    refine x_iconst hX dX12_begins_66 ?_
    obtain ⟨M_10, eM_10, h⟩ := bnd_of h
    refine x_iast hX dX12_begins_67 (st140 hs) inc_9_469 ixc_9 (x_meq eM_10 ?_)
    refine x_aloadn hX dX12_begins_68 rfl ?_
    refine x_getRj (j := 140) hX dX12_begins_69 fl_X12_7 rfl (st139 hs) rfl ?_
    refine x_bipush hX dX12_begins_72 bp_10 ?_
    refine x_iconst hX dX12_begins_74 ?_
    obtain ⟨M_11, eM_11, h⟩ := bnd_of h
    refine x_iast hX dX12_begins_75 (st140 hs) inc_10_469 ixc_10 (x_meq eM_11 ?_)
    refine x_aloadn hX dX12_begins_76 rfl ?_
    refine x_getRj (j := 140) hX dX12_begins_77 fl_X12_7 rfl (st139 hs) rfl ?_
    refine x_bipush hX dX12_begins_80 bp_12 ?_
    refine x_iconst hX dX12_begins_82 ?_
    obtain ⟨M_12, eM_12, h⟩ := bnd_of h
    refine x_iast hX dX12_begins_83 (st140 hs) inc_12_469 ixc_12 (x_meq eM_12 ?_)
    cases h
    exact x_vret hX dX12_begins_84 rfl
  · cases h; rfl
set_option maxRecDepth 100000 in
set_option maxHeartbeats 4000000 in
theorem c_X12_in {l : Launch} {G : Gx} (hG : GOK G) (hl : l.stackTraces = false)  (x0 : Int) (x1 : Int) (x2 : Int) (M : Mem) (r : Int) (h : f_X12_in x0 x1 x2 M = some r) : Cn l G mX12_in 1 [vi x0, vi x1, vi x2] M (some (vi r)) M := by
  refine Cn_of2 (ls := [some (vi x0), some (vi x1), some (vi x2)]) hG hl kX12_in rfl (Nat.le_of_ble_eq_true rfl) rfl rfl rfl rfl rfl (fun X eG el hX => ?_)
  subst eG; subst el
  unfold f_X12_in at h
  refine x_iloadn hX dX12_in_0 rfl ?_
  refine x_iloadn hX dX12_in_1 rfl ?_
  refine x_icmp_lt (tgt := 14) hX dX12_in_2 (by decide) rfl rfl (fun hc => ?_) (fun hc => ?_)
  · replace h := (if_pos hc).symm.trans h
    refine x_iconst hX dX12_in_14 ?_
    cases h
    exact x_zret hX dX12_in_15 (Or.inl cw_0) rfl
  · replace h := (if_neg hc).symm.trans h
    refine x_iloadn hX dX12_in_5 rfl ?_
    refine x_iloadn hX dX12_in_6 rfl ?_
    refine x_icmp_gt (tgt := 14) hX dX12_in_7 (by decide) rfl rfl (fun hc => ?_) (fun hc => ?_)
    · replace h := (if_pos hc).symm.trans h
      refine x_iconst hX dX12_in_14 ?_
      cases h
      exact x_zret hX dX12_in_15 (Or.inl cw_0) rfl
    · replace h := (if_neg hc).symm.trans h
      refine x_iconst hX dX12_in_10 ?_
      refine x_goto (tgt := 15) hX dX12_in_11 (by decide) ?_
      cases h
      exact x_zret hX dX12_in_15 (Or.inr cw_1) rfl
set_option maxRecDepth 100000 in
set_option maxHeartbeats 4000000 in
theorem c_X12_has {l : Launch} {G : Gx} (hG : GOK G) (hl : l.stackTraces = false)  (x0 : Int) (x1 : Int) (M : Mem) (r : Int) (h : f_X12_has x0 x1 M = some r) : Cn l G mX12_has 1 [vi x0, vi x1] M (some (vi r)) M := by
  refine Cn_of2 (ls := [some (vi x0), some (vi x1)]) hG hl kX12_has rfl (Nat.le_of_ble_eq_true rfl) rfl rfl rfl rfl rfl (fun X eG el hX => ?_)
  subst eG; subst el
  unfold f_X12_has at h
  refine x_iloadn hX dX12_has_0 rfl ?_
  refine x_iloadn hX dX12_has_1 rfl ?_
  refine x_ishr hX dX12_has_2 ?_
  refine x_iconst hX dX12_has_3 ?_
  refine x_iand hX dX12_has_4 ?_
  refine x_iconst hX dX12_has_5 ?_
  refine x_icmp_ne (tgt := 13) hX dX12_has_6 (by decide) rfl cw_1 (fun hc => ?_) (fun hc => ?_)
  · replace h := (if_pos hc).symm.trans h
    refine x_iconst hX dX12_has_9 ?_
    refine x_goto (tgt := 14) hX dX12_has_10 (by decide) ?_
    cases h
    exact x_zret hX dX12_has_14 (Or.inr cw_1) rfl
  · replace h := (if_neg hc).symm.trans h
    refine x_iconst hX dX12_has_13 ?_
    cases h
    exact x_zret hX dX12_has_14 (Or.inl cw_0) rfl
set_option maxRecDepth 100000 in
set_option maxHeartbeats 4000000 in
theorem ts_X12_ones_4 {X : Cxt} (hX : Gd X RX12 cX12_ones 3 (some .int) 1)  (M : Mem) (x1 : Int) (x2 : Int) {Q : State → Prop} (o : (Int × Int) ⊕ ((Int) ⊕ (Int))) (h : s_X12_ones_4 M x1 x2 = some o) (hP : ∀ y, o = .inl y → V X 0 0 Q 4 [none, some (vi y.1), some (vi y.2)] [] M) (hE : ∀ z, o = .inr (.inl z) → V X 0 0 Q 20 [none, some (vi z), none] [] M) (hR : ∀ q, o = .inr (.inr q) → Q = Qn X (some (vi q)) M) : V X 0 0 Q 4 [none, some (vi x1), some (vi x2)] [] M := by
  unfold s_X12_ones_4 at h
  refine x_iloadn hX dX12_ones_4 rfl ?_
  refine x_if_eq (tgt := 20) hX dX12_ones_5 (by decide) rfl (fun hc => ?_) (fun hc => ?_)
  · replace h := (if_pos hc).symm.trans h
    exact x_weak [false, true, false] rfl (hE x1 (Option.some.inj h).symm)
  · replace h := (if_neg hc).symm.trans h
    obtain ⟨x1_1, ex1_1, h⟩ := bnd_of h
    refine x_iinc (ls' := [none, some (vi x1_1), some (vi x2)]) hX dX12_ones_8 rfl rfl ex1_1 rfl ?_
    refine x_iloadn hX dX12_ones_11 rfl ?_
    refine x_iloadn hX dX12_ones_12 rfl ?_
    refine x_iconst hX dX12_ones_13 ?_
    refine x_isub hX dX12_ones_14 ?_
    refine x_iand hX dX12_ones_15 ?_
    obtain ⟨x2_2, ex2_2, h⟩ := bnd_of h
    refine x_istoren (ls' := [none, some (vi x1_1), some (vi x2_2)]) hX dX12_ones_16 rfl ex2_2 rfl ?_
    refine x_goto (tgt := 4) hX dX12_ones_17 (by decide) ?_
    exact x_weak [false, true, true] rfl (hP (x1_1, x2_2) (Option.some.inj h).symm)
set_option maxRecDepth 100000 in
set_option maxHeartbeats 4000000 in
theorem c_X12_ones {l : Launch} {G : Gx} (hG : GOK G) (hl : l.stackTraces = false)  (x0 : Int) (M : Mem) (r : Int) (h : f_X12_ones x0 M = some r) : Cn l G mX12_ones 1 [vi x0] M (some (vi r)) M := by
  refine Cn_of2 (ls := [some (vi x0), none, none]) hG hl kX12_ones rfl (Nat.le_of_ble_eq_true rfl) rfl rfl rfl rfl rfl (fun X eG el hX => ?_)
  subst eG; subst el
  unfold f_X12_ones at h
  refine x_iconst hX dX12_ones_0 ?_
  refine x_istoren (ls' := [some (vi x0), some (vi 0), none]) hX dX12_ones_1 rfl rfl rfl ?_
  refine x_iloadn hX dX12_ones_2 rfl ?_
  refine x_istoren (ls' := [some (vi x0), some (vi 0), some (vi x0)]) hX dX12_ones_3 rfl rfl rfl ?_
  refine x_weak (ls' := [none, some (vi 0), some (vi x0)]) [false, true, true] rfl ?_
  refine lp_use (x := (0, x0)) (P := fun x => V X 0 0 (Qn X (some (vi r)) M) 4 [none, some (vi x.1), some (vi x.2)] [] M) (PE := fun z_3 => V X 0 0 (Qn X (some (vi r)) M) 20 [none, some (vi z_3), none] [] M) (PR := fun q => (Qn X (some (vi r)) M) = Qn X (some (vi q)) M) h (fun x o hh hP hE hR => ts_X12_ones_4 hX M x.1 x.2 o hh hP hE hR) (fun z_3 h => ?_) (fun q h => ?_)
  · show V X 0 0 (Qn X (some (vi r)) M) 20 [none, some (vi z_3), none] [] M
    refine x_iloadn hX dX12_ones_20 rfl ?_
    cases h
    exact x_iret hX dX12_ones_21 rfl
  · cases h; rfl
set_option maxRecDepth 100000 in
set_option maxHeartbeats 4000000 in
theorem c_X12_greater {l : Launch} {G : Gx} (hG : GOK G) (hl : l.stackTraces = false)  (x0 : Int) (x1 : Int) (M : Mem) (r : Int) (h : f_X12_greater x0 x1 M = some r) : Cn l G mX12_greater 1 [vi x0, vi x1] M (some (vi r)) M := by
  refine Cn_of2 (ls := [some (vi x0), some (vi x1)]) hG hl kX12_greater rfl (Nat.le_of_ble_eq_true rfl) rfl rfl rfl rfl rfl (fun X eG el hX => ?_)
  subst eG; subst el
  unfold f_X12_greater at h
  refine x_iloadn hX dX12_greater_0 rfl ?_
  refine x_iloadn hX dX12_greater_1 rfl ?_
  refine x_icmp_le (tgt := 9) hX dX12_greater_2 (by decide) rfl rfl (fun hc => ?_) (fun hc => ?_)
  · replace h := (if_pos hc).symm.trans h
    refine x_iloadn hX dX12_greater_5 rfl ?_
    refine x_goto (tgt := 10) hX dX12_greater_6 (by decide) ?_
    cases h
    exact x_iret hX dX12_greater_10 rfl
  · replace h := (if_neg hc).symm.trans h
    refine x_iloadn hX dX12_greater_9 rfl ?_
    cases h
    exact x_iret hX dX12_greater_10 rfl
set_option maxRecDepth 100000 in
set_option maxHeartbeats 4000000 in
theorem c_X12_zones {l : Launch} {G : Gx} (hG : GOK G) (hl : l.stackTraces = false) (hs : SOK G)  (M : Mem) (r : Int) (h : f_X12_zones M = some r) : Cn l G mX12_zones 1 [vr G 139] M (some (vi r)) M := by
  refine Cn_of2 (ls := [some (vr G 139)]) hG hl kX12_zones rfl (Nat.le_of_ble_eq_true rfl) rfl rfl rfl rfl rfl (fun X eG el hX => ?_)
  subst eG; subst el
  unfold f_X12_zones at h
  refine x_aloadn hX dX12_zones_0 rfl ?_
  refine x_getRj (j := 140) hX dX12_zones_1 fl_X12_7 rfl (st139 hs) rfl ?_
  refine x_bipush hX dX12_zones_4 bp_7 ?_
  refine x_iald hX dX12_zones_6 (st140 hs) inc_7_469 ixc_7 ?_
  refine x_iconst hX dX12_zones_7 ?_
  refine x_icmp_ne (tgt := 15) hX dX12_zones_8 (by decide) rfl cw_m1 (fun hc => ?_) (fun hc => ?_)
  · replace h := (if_pos hc).symm.trans h
    refine x_iconst hX dX12_zones_11 ?_
    refine x_goto (tgt := 31) hX dX12_zones_12 (by decide) ?_
    cases h
    exact x_iret hX dX12_zones_31 rfl
  · replace h := (if_neg hc).symm.trans h
    refine x_aloadn hX dX12_zones_15 rfl ?_
    refine x_getRj (j := 140) hX dX12_zones_16 fl_X12_7 rfl (st139 hs) rfl ?_
    refine x_bipush hX dX12_zones_19 bp_8 ?_
    refine x_iald hX dX12_zones_21 (st140 hs) inc_8_469 ixc_8 ?_
    refine x_iconst hX dX12_zones_22 ?_
    refine x_icmp_ne (tgt := 30) hX dX12_zones_23 (by decide) rfl cw_m1 (fun hc => ?_) (fun hc => ?_)
    · replace h := (if_pos hc).symm.trans h
      refine x_iconst hX dX12_zones_26 ?_
      refine x_goto (tgt := 31) hX dX12_zones_27 (by decide) ?_
      cases h
      exact x_iret hX dX12_zones_31 rfl
    · replace h := (if_neg hc).symm.trans h
      refine x_iconst hX dX12_zones_30 ?_
      cases h
      exact x_iret hX dX12_zones_31 rfl
set_option maxRecDepth 100000 in
set_option maxHeartbeats 4000000 in
theorem c_X12_ofItem {l : Launch} {G : Gx} (hG : GOK G) (hl : l.stackTraces = false) (hs : SOK G)  (x1 : Int) (x2 : Int) (M : Mem) (r : Int) (h : f_X12_ofItem x1 x2 M = some r) : Cn l G mX12_ofItem 1 [vr G 139, vi x1, vi x2] M (some (vi r)) M := by
  refine Cn_of2 (ls := [some (vr G 139), some (vi x1), some (vi x2)]) hG hl kX12_ofItem rfl (Nat.le_of_ble_eq_true rfl) rfl rfl rfl rfl rfl (fun X eG el hX => ?_)
  subst eG; subst el
  unfold f_X12_ofItem at h
  refine x_aloadn hX dX12_ofItem_0 rfl ?_
  refine x_getRj (j := 140) hX dX12_ofItem_1 fl_X12_7 rfl (st139 hs) rfl ?_
  refine x_bipush hX dX12_ofItem_4 bp_13 ?_
  refine x_iconst hX dX12_ofItem_6 ?_
  refine x_iloadn hX dX12_ofItem_7 rfl ?_
  refine x_imul hX dX12_ofItem_8 ?_
  refine x_iadd hX dX12_ofItem_9 ?_
  refine x_iloadn hX dX12_ofItem_10 rfl ?_
  refine x_iadd hX dX12_ofItem_11 ?_
  obtain ⟨b_1, h⟩ := gi_of h
  refine x_iald hX dX12_ofItem_12 (st140 hs) b_1 rfl ?_
  cases h
  exact x_iret hX dX12_ofItem_13 rfl
set_option maxRecDepth 100000 in
set_option maxHeartbeats 4000000 in
theorem c_X12_orderAt {l : Launch} {G : Gx} (hG : GOK G) (hl : l.stackTraces = false)  (x0 : Int) (M : Mem) (r : Int) (h : f_X12_orderAt x0 M = some r) : Cn l G mX12_orderAt 1 [vi x0] M (some (vi r)) M := by
  refine Cn_of2 (ls := [some (vi x0)]) hG hl kX12_orderAt rfl (Nat.le_of_ble_eq_true rfl) rfl rfl rfl rfl rfl (fun X eG el hX => ?_)
  subst eG; subst el
  unfold f_X12_orderAt at h
  refine x_bipush hX dX12_orderAt_0 bp_109 ?_
  refine x_bipush hX dX12_orderAt_2 bp_22 ?_
  refine x_iloadn hX dX12_orderAt_4 rfl ?_
  refine x_imul hX dX12_orderAt_5 ?_
  refine x_iadd hX dX12_orderAt_6 ?_
  cases h
  exact x_iret hX dX12_orderAt_7 rfl
set_option maxRecDepth 100000 in
set_option maxHeartbeats 4000000 in
theorem c_X12_lineAt {l : Launch} {G : Gx} (hG : GOK G) (hl : l.stackTraces = false)  (x0 : Int) (x1 : Int) (M : Mem) (r : Int) (h : f_X12_lineAt x0 x1 M = some r) : Cn l G mX12_lineAt 1 [vi x0, vi x1] M (some (vi r)) M := by
  refine Cn_of2 (ls := [some (vi x0), some (vi x1)]) hG hl kX12_lineAt rfl (Nat.le_of_ble_eq_true rfl) rfl rfl rfl rfl rfl (fun X eG el hX => ?_)
  subst eG; subst el
  unfold f_X12_lineAt at h
  refine x_bipush hX dX12_lineAt_0 bp_109 ?_
  refine x_bipush hX dX12_lineAt_2 bp_22 ?_
  refine x_iloadn hX dX12_lineAt_4 rfl ?_
  refine x_imul hX dX12_lineAt_5 ?_
  refine x_iadd hX dX12_lineAt_6 ?_
  refine x_iconst hX dX12_lineAt_7 ?_
  refine x_iadd hX dX12_lineAt_8 ?_
  refine x_iconst hX dX12_lineAt_9 ?_
  refine x_iloadn hX dX12_lineAt_10 rfl ?_
  refine x_imul hX dX12_lineAt_11 ?_
  refine x_iadd hX dX12_lineAt_12 ?_
  cases h
  exact x_iret hX dX12_lineAt_13 rfl
set_option maxRecDepth 100000 in
set_option maxHeartbeats 4000000 in
theorem c_X12_laysHall {l : Launch} {G : Gx} (hG : GOK G) (hl : l.stackTraces = false) (hs : SOK G)  (x1 : Int) (x2 : Int) (x3 : Int) (M : Mem) (Mr : Mem) (h : f_X12_laysHall x1 x2 x3 M = some Mr) : Cn l G mX12_laysHall 1 [vr G 139, vi x1, vi x2, vi x3] M none Mr := by
  refine Cn_of2 (ls := [some (vr G 139), some (vi x1), some (vi x2), some (vi x3)]) hG hl kX12_laysHall rfl (Nat.le_of_ble_eq_true rfl) rfl rfl rfl rfl rfl (fun X eG el hX => ?_)
  subst eG; subst el
  unfold f_X12_laysHall at h
  refine x_aloadn hX dX12_laysHall_0 rfl ?_
  refine x_getRj (j := 140) hX dX12_laysHall_1 fl_X12_7 rfl (st139 hs) rfl ?_
  refine x_iconst hX dX12_laysHall_4 ?_
  refine x_iloadn hX dX12_laysHall_5 rfl ?_
  obtain ⟨M_1, eM_1, h⟩ := bnd_of h
  refine x_iast hX dX12_laysHall_6 (st140 hs) inc_0_469 ixc_0 (x_meq eM_1 ?_)
  refine x_aloadn hX dX12_laysHall_7 rfl ?_
  refine x_getRj (j := 140) hX dX12_laysHall_8 fl_X12_7 rfl (st139 hs) rfl ?_
  refine x_iconst hX dX12_laysHall_11 ?_
  refine x_iloadn hX dX12_laysHall_12 rfl ?_
  obtain ⟨M_2, eM_2, h⟩ := bnd_of h
  refine x_iast hX dX12_laysHall_13 (st140 hs) inc_1_469 ixc_1 (x_meq eM_2 ?_)
  refine x_aloadn hX dX12_laysHall_14 rfl ?_
  refine x_getRj (j := 140) hX dX12_laysHall_15 fl_X12_7 rfl (st139 hs) rfl ?_
  refine x_iconst hX dX12_laysHall_18 ?_
  refine x_iloadn hX dX12_laysHall_19 rfl ?_
  obtain ⟨M_3, eM_3, h⟩ := bnd_of h
  refine x_iast hX dX12_laysHall_20 (st140 hs) inc_2_469 ixc_2 (x_meq eM_3 ?_)
  refine x_aloadn hX dX12_laysHall_21 rfl ?_
  refine x_getRj (j := 140) hX dX12_laysHall_22 fl_X12_7 rfl (st139 hs) rfl ?_
  refine x_bipush hX dX12_laysHall_25 bp_7 ?_
  refine x_iconst hX dX12_laysHall_27 ?_
  obtain ⟨M_4, eM_4, h⟩ := bnd_of h
  refine x_iast hX dX12_laysHall_28 (st140 hs) inc_7_469 ixc_7 (x_meq eM_4 ?_)
  refine x_aloadn hX dX12_laysHall_29 rfl ?_
  refine x_getRj (j := 140) hX dX12_laysHall_30 fl_X12_7 rfl (st139 hs) rfl ?_
  refine x_bipush hX dX12_laysHall_33 bp_8 ?_
  refine x_iconst hX dX12_laysHall_35 ?_
  obtain ⟨M_5, eM_5, h⟩ := bnd_of h
  refine x_iast hX dX12_laysHall_36 (st140 hs) inc_8_469 ixc_8 (x_meq eM_5 ?_)
  cases h
  exact x_vret hX dX12_laysHall_37 rfl
set_option maxRecDepth 100000 in
set_option maxHeartbeats 4000000 in
theorem c_X12_aisleCount {l : Launch} {G : Gx} (hG : GOK G) (hl : l.stackTraces = false) (hs : SOK G)  (M : Mem) (r : Int) (Mr : Mem) (h : f_X12_aisleCount M = some (r, Mr)) : Cn l G mX12_aisleCount 1 [vr G 139] M (some (vi r)) Mr := by
  refine Cn_of2 (ls := [some (vr G 139)]) hG hl kX12_aisleCount rfl (Nat.le_of_ble_eq_true rfl) rfl rfl rfl rfl rfl (fun X eG el hX => ?_)
  subst eG; subst el
  unfold f_X12_aisleCount at h
  refine x_aloadn hX dX12_aisleCount_0 rfl ?_
  refine x_iconst hX dX12_aisleCount_1 ?_
  obtain ⟨M_1, eM_1, h⟩ := bnd_of h
  refine x_putI hX dX12_aisleCount_2 fp_X12_70 rfl (st139 hs) (x_meq eM_1 ?_)
  refine x_aloadn hX dX12_aisleCount_5 rfl ?_
  refine x_getRj (j := 140) hX dX12_aisleCount_6 fl_X12_7 rfl (st139 hs) rfl ?_
  refine x_iconst hX dX12_aisleCount_9 ?_
  refine x_iald hX dX12_aisleCount_10 (st140 hs) inc_0_469 ixc_0 ?_
  cases h
  exact x_iret hX dX12_aisleCount_11 rfl
set_option maxRecDepth 100000 in
set_option maxHeartbeats 4000000 in
theorem c_X12_adds {l : Launch} {G : Gx} (hG : GOK G) (hl : l.stackTraces = false) (hs : SOK G)  (x1 : Int) (x2 : Int) (x3 : Int) (x4 : Int) (M : Mem) (r : Int) (Mr : Mem) (h : f_X12_adds x1 x2 x3 x4 M = some (r, Mr)) : Cn l G mX12_adds 1 [vr G 139, vi x1, vi x2, vi x3, vi x4] M (some (vi r)) Mr := by
  refine Cn_of2 (ls := [some (vr G 139), some (vi x1), some (vi x2), some (vi x3), some (vi x4), none]) hG hl kX12_adds rfl (Nat.le_of_ble_eq_true rfl) rfl rfl rfl rfl rfl (fun X eG el hX => ?_)
  subst eG; subst el
  unfold f_X12_adds at h
  refine x_bipush hX dX12_adds_0 bp_13 ?_
  refine x_iconst hX dX12_adds_2 ?_
  refine x_aloadn hX dX12_adds_3 rfl ?_
  refine x_getRj (j := 140) hX dX12_adds_4 fl_X12_7 rfl (st139 hs) rfl ?_
  refine x_iconst hX dX12_adds_7 ?_
  refine x_iald hX dX12_adds_8 (st140 hs) inc_3_469 ixc_3 ?_
  refine x_imul hX dX12_adds_9 ?_
  refine x_iadd hX dX12_adds_10 ?_
  obtain ⟨x5_1, ex5_1, h⟩ := bnd_of h
  refine x_istore (ls' := [some (vr (xG X) 139), some (vi x1), some (vi x2), some (vi x3), some (vi x4), some (vi x5_1)]) hX dX12_adds_11 rfl ex5_1 rfl ?_
  refine x_aloadn hX dX12_adds_13 rfl ?_
  refine x_getRj (j := 140) hX dX12_adds_14 fl_X12_7 rfl (st139 hs) rfl ?_
  refine x_iload hX dX12_adds_17 rfl ?_
  refine x_iloadn hX dX12_adds_19 rfl ?_
  obtain ⟨b_3, h⟩ := gi_of h
  obtain ⟨M_2, eM_2, h⟩ := bnd_of h
  refine x_iast hX dX12_adds_20 (st140 hs) b_3 rfl (x_meq eM_2 ?_)
  refine x_aloadn hX dX12_adds_21 rfl ?_
  refine x_getRj (j := 140) hX dX12_adds_22 fl_X12_7 rfl (st139 hs) rfl ?_
  refine x_iload hX dX12_adds_25 rfl ?_
  refine x_iconst hX dX12_adds_27 ?_
  refine x_iadd hX dX12_adds_28 ?_
  refine x_iloadn hX dX12_adds_29 rfl ?_
  obtain ⟨b_5, h⟩ := gi_of h
  obtain ⟨M_4, eM_4, h⟩ := bnd_of h
  refine x_iast hX dX12_adds_30 (st140 hs) b_5 rfl (x_meq eM_4 ?_)
  refine x_aloadn hX dX12_adds_31 rfl ?_
  refine x_getRj (j := 140) hX dX12_adds_32 fl_X12_7 rfl (st139 hs) rfl ?_
  refine x_iload hX dX12_adds_35 rfl ?_
  refine x_iconst hX dX12_adds_37 ?_
  refine x_iadd hX dX12_adds_38 ?_
  refine x_iloadn hX dX12_adds_39 rfl ?_
  obtain ⟨b_7, h⟩ := gi_of h
  obtain ⟨M_6, eM_6, h⟩ := bnd_of h
  refine x_iast hX dX12_adds_40 (st140 hs) b_7 rfl (x_meq eM_6 ?_)
  refine x_aloadn hX dX12_adds_41 rfl ?_
  refine x_getRj (j := 140) hX dX12_adds_42 fl_X12_7 rfl (st139 hs) rfl ?_
  refine x_iload hX dX12_adds_45 rfl ?_
  refine x_iconst hX dX12_adds_47 ?_
  refine x_iadd hX dX12_adds_48 ?_
  refine x_iload hX dX12_adds_49 rfl ?_
  obtain ⟨b_9, h⟩ := gi_of h
  obtain ⟨M_8, eM_8, h⟩ := bnd_of h
  refine x_iast hX dX12_adds_51 (st140 hs) b_9 rfl (x_meq eM_8 ?_)
  refine x_aloadn hX dX12_adds_52 rfl ?_
  refine x_getRj (j := 140) hX dX12_adds_53 fl_X12_7 rfl (st139 hs) rfl ?_
  refine x_iconst hX dX12_adds_56 ?_
  refine x_dup2 hX dX12_adds_57 rfl rfl ?_
  refine x_iald hX dX12_adds_58 (st140 hs) inc_3_469 ixc_3 ?_
  refine x_iconst hX dX12_adds_59 ?_
  refine x_iadd hX dX12_adds_60 ?_
  obtain ⟨M_10, eM_10, h⟩ := bnd_of h
  refine x_iast hX dX12_adds_61 (st140 hs) inc_3_469 ixc_3 (x_meq eM_10 ?_)
  refine x_aloadn hX dX12_adds_62 rfl ?_
  refine x_getRj (j := 140) hX dX12_adds_63 fl_X12_7 rfl (st139 hs) rfl ?_
  refine x_iconst hX dX12_adds_66 ?_
  refine x_iald hX dX12_adds_67 (st140 hs) inc_3_469 ixc_3 ?_
  refine x_iconst hX dX12_adds_68 ?_
  refine x_isub hX dX12_adds_69 ?_
  cases h
  exact x_iret hX dX12_adds_70 rfl
set_option maxRecDepth 100000 in
set_option maxHeartbeats 4000000 in
theorem c_X12_itemCount {l : Launch} {G : Gx} (hG : GOK G) (hl : l.stackTraces = false) (hs : SOK G)  (M : Mem) (r : Int) (Mr : Mem) (h : f_X12_itemCount M = some (r, Mr)) : Cn l G mX12_itemCount 1 [vr G 139] M (some (vi r)) Mr := by
  refine Cn_of2 (ls := [some (vr G 139)]) hG hl kX12_itemCount rfl (Nat.le_of_ble_eq_true rfl) rfl rfl rfl rfl rfl (fun X eG el hX => ?_)
  subst eG; subst el
  unfold f_X12_itemCount at h
  refine x_aloadn hX dX12_itemCount_0 rfl ?_
  refine x_iconst hX dX12_itemCount_1 ?_
  obtain ⟨M_1, eM_1, h⟩ := bnd_of h
  refine x_putI hX dX12_itemCount_2 fp_X12_70 rfl (st139 hs) (x_meq eM_1 ?_)
  refine x_aloadn hX dX12_itemCount_5 rfl ?_
  refine x_getRj (j := 140) hX dX12_itemCount_6 fl_X12_7 rfl (st139 hs) rfl ?_
  refine x_iconst hX dX12_itemCount_9 ?_
  refine x_iald hX dX12_itemCount_10 (st140 hs) inc_3_469 ixc_3 ?_
  cases h
  exact x_iret hX dX12_itemCount_11 rfl
set_option maxRecDepth 100000 in
set_option maxHeartbeats 4000000 in
theorem c_X12_orderCount {l : Launch} {G : Gx} (hG : GOK G) (hl : l.stackTraces = false) (hs : SOK G)  (M : Mem) (r : Int) (Mr : Mem) (h : f_X12_orderCount M = some (r, Mr)) : Cn l G mX12_orderCount 1 [vr G 139] M (some (vi r)) Mr := by
  refine Cn_of2 (ls := [some (vr G 139)]) hG hl kX12_orderCount rfl (Nat.le_of_ble_eq_true rfl) rfl rfl rfl rfl rfl (fun X eG el hX => ?_)
  subst eG; subst el
  unfold f_X12_orderCount at h
  refine x_aloadn hX dX12_orderCount_0 rfl ?_
  refine x_iconst hX dX12_orderCount_1 ?_
  obtain ⟨M_1, eM_1, h⟩ := bnd_of h
  refine x_putI hX dX12_orderCount_2 fp_X12_70 rfl (st139 hs) (x_meq eM_1 ?_)
  refine x_aloadn hX dX12_orderCount_5 rfl ?_
  refine x_getRj (j := 140) hX dX12_orderCount_6 fl_X12_7 rfl (st139 hs) rfl ?_
  refine x_iconst hX dX12_orderCount_9 ?_
  refine x_iald hX dX12_orderCount_10 (st140 hs) inc_4_469 ixc_4 ?_
  cases h
  exact x_iret hX dX12_orderCount_11 rfl
set_option maxRecDepth 100000 in
set_option maxHeartbeats 4000000 in
theorem ts_X12_removes_4 {X : Cxt} (hX : Gd X RX12 cX12_removes 3 (none) 1) (hs : SOK (xG X))  (x2 : Int) (M : Mem) {Q : State → Prop} (o : (Int × Mem) ⊕ ((Mem) ⊕ (Mem))) (h : s_X12_removes_4 x2 M = some o) (hP : ∀ y, o = .inl y → V X 0 0 Q 4 [some (vr (xG X) 139), none, some (vi y.1)] [] y.2) (hE : ∀ z, o = .inr (.inl z) → V X 0 0 Q 42 [some (vr (xG X) 139), none, none] [] z) (hR : ∀ q, o = .inr (.inr q) → Q = Qn X none q) : V X 0 0 Q 4 [some (vr (xG X) 139), none, some (vi x2)] [] M := by
  unfold s_X12_removes_4 at h
  refine x_iloadn hX dX12_removes_4 rfl ?_
  refine x_aloadn hX dX12_removes_5 rfl ?_
  refine x_getRj (j := 140) hX dX12_removes_6 fl_X12_7 rfl (st139 hs) rfl ?_
  refine x_iconst hX dX12_removes_9 ?_
  refine x_iald hX dX12_removes_10 (st140 hs) inc_5_469 ixc_5 ?_
  refine x_icmp_ge (tgt := 42) hX dX12_removes_11 (by decide) rfl rfl (fun hc => ?_) (fun hc => ?_)
  · replace h := (if_pos hc).symm.trans h
    refine x_aloadn hX dX12_removes_14 rfl ?_
    refine x_getRj (j := 140) hX dX12_removes_15 fl_X12_7 rfl (st139 hs) rfl ?_
    refine x_sipush hX dX12_removes_18 sp_461 ?_
    refine x_iloadn hX dX12_removes_21 rfl ?_
    refine x_iadd hX dX12_removes_22 ?_
    refine x_iconst hX dX12_removes_23 ?_
    refine x_isub hX dX12_removes_24 ?_
    refine x_aloadn hX dX12_removes_25 rfl ?_
    refine x_getRj (j := 140) hX dX12_removes_26 fl_X12_7 rfl (st139 hs) rfl ?_
    refine x_sipush hX dX12_removes_29 sp_461 ?_
    refine x_iloadn hX dX12_removes_32 rfl ?_
    refine x_iadd hX dX12_removes_33 ?_
    obtain ⟨b_2, h⟩ := gi_of h
    refine x_iald hX dX12_removes_34 (st140 hs) b_2 rfl ?_
    obtain ⟨b_4, h⟩ := gi_of h
    obtain ⟨M_3, eM_3, h⟩ := bnd_of h
    refine x_iast hX dX12_removes_35 (st140 hs) b_4 rfl (x_meq eM_3 ?_)
    obtain ⟨x2_5, ex2_5, h⟩ := bnd_of h
    refine x_iinc (ls' := [some (vr (xG X) 139), none, some (vi x2_5)]) hX dX12_removes_36 rfl rfl ex2_5 rfl ?_
    refine x_goto (tgt := 4) hX dX12_removes_39 (by decide) ?_
    exact x_weak [true, false, true] rfl (hP (x2_5, M_3) (Option.some.inj h).symm)
  · replace h := (if_neg hc).symm.trans h
    exact x_weak [true, false, false] rfl (hE M (Option.some.inj h).symm)
set_option maxRecDepth 100000 in
set_option maxHeartbeats 4000000 in
theorem c_X12_removes {l : Launch} {G : Gx} (hG : GOK G) (hl : l.stackTraces = false) (hs : SOK G)  (x1 : Int) (M : Mem) (Mr : Mem) (h : f_X12_removes x1 M = some Mr) : Cn l G mX12_removes 1 [vr G 139, vi x1] M none Mr := by
  refine Cn_of2 (ls := [some (vr G 139), some (vi x1), none]) hG hl kX12_removes rfl (Nat.le_of_ble_eq_true rfl) rfl rfl rfl rfl rfl (fun X eG el hX => ?_)
  subst eG; subst el
  unfold f_X12_removes at h
  refine x_iloadn hX dX12_removes_0 rfl ?_
  refine x_iconst hX dX12_removes_1 ?_
  refine x_iadd hX dX12_removes_2 ?_
  obtain ⟨x2_1, ex2_1, h⟩ := bnd_of h
  refine x_istoren (ls' := [some (vr (xG X) 139), some (vi x1), some (vi x2_1)]) hX dX12_removes_3 rfl ex2_1 rfl ?_
  refine x_weak (ls' := [some (vr (xG X) 139), none, some (vi x2_1)]) [true, false, true] rfl ?_
  refine lp_use (x := (x2_1, M)) (P := fun x => V X 0 0 (Qn X none Mr) 4 [some (vr (xG X) 139), none, some (vi x.1)] [] x.2) (PE := fun z_6 => V X 0 0 (Qn X none Mr) 42 [some (vr (xG X) 139), none, none] [] z_6) (PR := fun q => (Qn X none Mr) = Qn X none q) h (fun x o hh hP hE hR => ts_X12_removes_4 hX hs x.1 x.2 o hh hP hE hR) (fun z_6 h => ?_) (fun q h => ?_)
  · show V X 0 0 (Qn X none Mr) 42 [some (vr (xG X) 139), none, none] [] z_6
    refine x_aloadn hX dX12_removes_42 rfl ?_
    refine x_getRj (j := 140) hX dX12_removes_43 fl_X12_7 rfl (st139 hs) rfl ?_
    refine x_iconst hX dX12_removes_46 ?_
    refine x_dup2 hX dX12_removes_47 rfl rfl ?_
    refine x_iald hX dX12_removes_48 (st140 hs) inc_5_469 ixc_5 ?_
    refine x_iconst hX dX12_removes_49 ?_
    refine x_isub hX dX12_removes_50 ?_
    obtain ⟨M_7, eM_7, h⟩ := bnd_of h
    refine x_iast hX dX12_removes_51 (st140 hs) inc_5_469 ixc_5 (x_meq eM_7 ?_)
    cases h
    exact x_vret hX dX12_removes_52 rfl
  · cases h; rfl
set_option maxRecDepth 100000 in
set_option maxHeartbeats 4000000 in
theorem c_X12_batchCount {l : Launch} {G : Gx} (hG : GOK G) (hl : l.stackTraces = false) (hs : SOK G)  (M : Mem) (r : Int) (Mr : Mem) (h : f_X12_batchCount M = some (r, Mr)) : Cn l G mX12_batchCount 1 [vr G 139] M (some (vi r)) Mr := by
  refine Cn_of2 (ls := [some (vr G 139)]) hG hl kX12_batchCount rfl (Nat.le_of_ble_eq_true rfl) rfl rfl rfl rfl rfl (fun X eG el hX => ?_)
  subst eG; subst el
  unfold f_X12_batchCount at h
  refine x_aloadn hX dX12_batchCount_0 rfl ?_
  refine x_iconst hX dX12_batchCount_1 ?_
  obtain ⟨M_1, eM_1, h⟩ := bnd_of h
  refine x_putI hX dX12_batchCount_2 fp_X12_70 rfl (st139 hs) (x_meq eM_1 ?_)
  refine x_aloadn hX dX12_batchCount_5 rfl ?_
  refine x_getRj (j := 140) hX dX12_batchCount_6 fl_X12_7 rfl (st139 hs) rfl ?_
  refine x_iconst hX dX12_batchCount_9 ?_
  refine x_iald hX dX12_batchCount_10 (st140 hs) inc_5_469 ixc_5 ?_
  cases h
  exact x_iret hX dX12_batchCount_11 rfl
set_option maxRecDepth 100000 in
set_option maxHeartbeats 4000000 in
theorem c_X12_firstOf {l : Launch} {G : Gx} (hG : GOK G) (hl : l.stackTraces = false) (hs : SOK G)  (x1 : Int) (M : Mem) (r : Int) (h : f_X12_firstOf x1 M = some r) : Cn l G mX12_firstOf 1 [vr G 139, vi x1] M (some (vi r)) M := by
  refine Cn_of2 (ls := [some (vr G 139), some (vi x1)]) hG hl kX12_firstOf rfl (Nat.le_of_ble_eq_true rfl) rfl rfl rfl rfl rfl (fun X eG el hX => ?_)
  subst eG; subst el
  unfold f_X12_firstOf at h
  refine x_iloadn hX dX12_firstOf_0 rfl ?_
  refine x_if_ne (tgt := 8) hX dX12_firstOf_1 (by decide) rfl (fun hc => ?_) (fun hc => ?_)
  · replace h := (if_pos hc).symm.trans h
    refine x_iconst hX dX12_firstOf_4 ?_
    refine x_goto (tgt := 30) hX dX12_firstOf_5 (by decide) ?_
    cases h
    exact x_iret hX dX12_firstOf_30 rfl
  · replace h := (if_neg hc).symm.trans h
    refine x_iloadn hX dX12_firstOf_8 rfl ?_
    refine x_iconst hX dX12_firstOf_9 ?_
    refine x_icmp_ne (tgt := 23) hX dX12_firstOf_10 (by decide) rfl cw_1 (fun hc => ?_) (fun hc => ?_)
    · replace h := (if_pos hc).symm.trans h
      refine x_aloadn hX dX12_firstOf_13 rfl ?_
      refine x_getRj (j := 140) hX dX12_firstOf_14 fl_X12_7 rfl (st139 hs) rfl ?_
      refine x_bipush hX dX12_firstOf_17 bp_7 ?_
      refine x_iald hX dX12_firstOf_19 (st140 hs) inc_7_469 ixc_7 ?_
      refine x_goto (tgt := 30) hX dX12_firstOf_20 (by decide) ?_
      cases h
      exact x_iret hX dX12_firstOf_30 rfl
    · replace h := (if_neg hc).symm.trans h
      refine x_aloadn hX dX12_firstOf_23 rfl ?_
      refine x_getRj (j := 140) hX dX12_firstOf_24 fl_X12_7 rfl (st139 hs) rfl ?_
      refine x_bipush hX dX12_firstOf_27 bp_8 ?_
      refine x_iald hX dX12_firstOf_29 (st140 hs) inc_8_469 ixc_8 ?_
      cases h
      exact x_iret hX dX12_firstOf_30 rfl
set_option maxRecDepth 100000 in
set_option maxHeartbeats 4000000 in
theorem ts_X12_lowest_2 {X : Cxt} (hX : Gd X RX12 cX12_lowest 3 (some .int) 1) (hs : SOK (xG X))  (x1 : Int) (M : Mem) (x2 : Int) {Q : State → Prop} (o : (Int) ⊕ ((Int) ⊕ (Int))) (h : s_X12_lowest_2 x1 M x2 = some o) (hP : ∀ y, o = .inl y → V X 0 0 Q 2 [some (vr (xG X) 139), some (vi x1), some (vi y)] [] M) (hE : ∀ z, o = .inr (.inl z) → V X 0 0 Q 32 [none, none, some (vi z)] [] M) (hR : ∀ q, o = .inr (.inr q) → Q = Qn X (some (vi q)) M) : V X 0 0 Q 2 [some (vr (xG X) 139), some (vi x1), some (vi x2)] [] M := by
  unfold s_X12_lowest_2 at h
  refine x_iloadn hX dX12_lowest_2 rfl ?_
  refine x_aloadn hX dX12_lowest_3 rfl ?_
  refine x_getRj (j := 140) hX dX12_lowest_4 fl_X12_7 rfl (st139 hs) rfl ?_
  refine x_iconst hX dX12_lowest_7 ?_
  refine x_iald hX dX12_lowest_8 (st140 hs) inc_1_469 ixc_1 ?_
  refine x_icmp_gt (tgt := 32) hX dX12_lowest_9 (by decide) rfl rfl (fun hc => ?_) (fun hc => ?_)
  · replace h := (if_pos hc).symm.trans h
    exact x_weak [false, false, true] rfl (hE x2 (Option.some.inj h).symm)
  · replace h := (if_neg hc).symm.trans h
    refine x_aloadn hX dX12_lowest_12 rfl ?_
    refine x_getRj (j := 144) hX dX12_lowest_13 fl_X12_23 rfl (st139 hs) rfl ?_
    refine x_bipush hX dX12_lowest_16 bp_21 ?_
    refine x_iloadn hX dX12_lowest_18 rfl ?_
    refine x_imul hX dX12_lowest_19 ?_
    refine x_iloadn hX dX12_lowest_20 rfl ?_
    refine x_iadd hX dX12_lowest_21 ?_
    obtain ⟨b_1, h⟩ := gi_of h
    refine x_zald hX dX12_lowest_22 (st144 hs) b_1 rfl ?_
    refine x_if_ne (tgt := 32) hX dX12_lowest_23 (by decide) rfl (fun hc => ?_) (fun hc => ?_)
    · replace h := (if_pos hc).symm.trans h
      obtain ⟨x2_2, ex2_2, h⟩ := bnd_of h
      refine x_iinc (ls' := [some (vr (xG X) 139), some (vi x1), some (vi x2_2)]) hX dX12_lowest_26 rfl rfl ex2_2 rfl ?_
      refine x_goto (tgt := 2) hX dX12_lowest_29 (by decide) ?_
      exact x_weak [true, true, true] rfl (hP x2_2 (Option.some.inj h).symm)
    · replace h := (if_neg hc).symm.trans h
      exact x_weak [false, false, true] rfl (hE x2 (Option.some.inj h).symm)
set_option maxRecDepth 100000 in
set_option maxHeartbeats 4000000 in
theorem c_X12_lowest {l : Launch} {G : Gx} (hG : GOK G) (hl : l.stackTraces = false) (hs : SOK G)  (x1 : Int) (M : Mem) (r : Int) (h : f_X12_lowest x1 M = some r) : Cn l G mX12_lowest 1 [vr G 139, vi x1] M (some (vi r)) M := by
  refine Cn_of2 (ls := [some (vr G 139), some (vi x1), none]) hG hl kX12_lowest rfl (Nat.le_of_ble_eq_true rfl) rfl rfl rfl rfl rfl (fun X eG el hX => ?_)
  subst eG; subst el
  unfold f_X12_lowest at h
  refine x_iconst hX dX12_lowest_0 ?_
  refine x_istoren (ls' := [some (vr (xG X) 139), some (vi x1), some (vi 1)]) hX dX12_lowest_1 rfl rfl rfl ?_
  refine x_weak (ls' := [some (vr (xG X) 139), some (vi x1), some (vi 1)]) [true, true, true] rfl ?_
  refine lp_use (x := 1) (P := fun x => V X 0 0 (Qn X (some (vi r)) M) 2 [some (vr (xG X) 139), some (vi x1), some (vi x)] [] M) (PE := fun z_3 => V X 0 0 (Qn X (some (vi r)) M) 32 [none, none, some (vi z_3)] [] M) (PR := fun q => (Qn X (some (vi r)) M) = Qn X (some (vi q)) M) h (fun x o hh hP hE hR => ts_X12_lowest_2 hX hs x1 M x o hh hP hE hR) (fun z_3 h => ?_) (fun q h => ?_)
  · show V X 0 0 (Qn X (some (vi r)) M) 32 [none, none, some (vi z_3)] [] M
    refine x_iloadn hX dX12_lowest_32 rfl ?_
    cases h
    exact x_iret hX dX12_lowest_33 rfl
  · cases h; rfl
set_option maxRecDepth 100000 in
set_option maxHeartbeats 4000000 in
theorem ts_X12_highest_7 {X : Cxt} (hX : Gd X RX12 cX12_highest 3 (some .int) 1) (hs : SOK (xG X))  (x1 : Int) (M : Mem) (x2 : Int) {Q : State → Prop} (o : (Int) ⊕ ((Int) ⊕ (Int))) (h : s_X12_highest_7 x1 M x2 = some o) (hP : ∀ y, o = .inl y → V X 0 0 Q 7 [some (vr (xG X) 139), some (vi x1), some (vi y)] [] M) (hE : ∀ z, o = .inr (.inl z) → V X 0 0 Q 31 [none, none, some (vi z)] [] M) (hR : ∀ q, o = .inr (.inr q) → Q = Qn X (some (vi q)) M) : V X 0 0 Q 7 [some (vr (xG X) 139), some (vi x1), some (vi x2)] [] M := by
  unfold s_X12_highest_7 at h
  refine x_iloadn hX dX12_highest_7 rfl ?_
  refine x_if_le (tgt := 31) hX dX12_highest_8 (by decide) rfl (fun hc => ?_) (fun hc => ?_)
  · replace h := (if_pos hc).symm.trans h
    refine x_aloadn hX dX12_highest_11 rfl ?_
    refine x_getRj (j := 144) hX dX12_highest_12 fl_X12_23 rfl (st139 hs) rfl ?_
    refine x_bipush hX dX12_highest_15 bp_21 ?_
    refine x_iloadn hX dX12_highest_17 rfl ?_
    refine x_imul hX dX12_highest_18 ?_
    refine x_iloadn hX dX12_highest_19 rfl ?_
    refine x_iadd hX dX12_highest_20 ?_
    obtain ⟨b_2, h⟩ := gi_of h
    refine x_zald hX dX12_highest_21 (st144 hs) b_2 rfl ?_
    refine x_if_ne (tgt := 31) hX dX12_highest_22 (by decide) rfl (fun hc => ?_) (fun hc => ?_)
    · replace h := (if_pos hc).symm.trans h
      obtain ⟨x2_3, ex2_3, h⟩ := bnd_of h
      refine x_iinc (ls' := [some (vr (xG X) 139), some (vi x1), some (vi x2_3)]) hX dX12_highest_25 rfl rfl ex2_3 rfl ?_
      refine x_goto (tgt := 7) hX dX12_highest_28 (by decide) ?_
      exact x_weak [true, true, true] rfl (hP x2_3 (Option.some.inj h).symm)
    · replace h := (if_neg hc).symm.trans h
      exact x_weak [false, false, true] rfl (hE x2 (Option.some.inj h).symm)
  · replace h := (if_neg hc).symm.trans h
    exact x_weak [false, false, true] rfl (hE x2 (Option.some.inj h).symm)
set_option maxRecDepth 100000 in
set_option maxHeartbeats 4000000 in
theorem c_X12_highest {l : Launch} {G : Gx} (hG : GOK G) (hl : l.stackTraces = false) (hs : SOK G)  (x1 : Int) (M : Mem) (r : Int) (h : f_X12_highest x1 M = some r) : Cn l G mX12_highest 1 [vr G 139, vi x1] M (some (vi r)) M := by
  refine Cn_of2 (ls := [some (vr G 139), some (vi x1), none]) hG hl kX12_highest rfl (Nat.le_of_ble_eq_true rfl) rfl rfl rfl rfl rfl (fun X eG el hX => ?_)
  subst eG; subst el
  unfold f_X12_highest at h
  refine x_aloadn hX dX12_highest_0 rfl ?_
  refine x_getRj (j := 140) hX dX12_highest_1 fl_X12_7 rfl (st139 hs) rfl ?_
  refine x_iconst hX dX12_highest_4 ?_
  refine x_iald hX dX12_highest_5 (st140 hs) inc_1_469 ixc_1 ?_
  obtain ⟨x2_1, ex2_1, h⟩ := bnd_of h
  refine x_istoren (ls' := [some (vr (xG X) 139), some (vi x1), some (vi x2_1)]) hX dX12_highest_6 rfl ex2_1 rfl ?_
  refine x_weak (ls' := [some (vr (xG X) 139), some (vi x1), some (vi x2_1)]) [true, true, true] rfl ?_
  refine lp_use (x := x2_1) (P := fun x => V X 0 0 (Qn X (some (vi r)) M) 7 [some (vr (xG X) 139), some (vi x1), some (vi x)] [] M) (PE := fun z_4 => V X 0 0 (Qn X (some (vi r)) M) 31 [none, none, some (vi z_4)] [] M) (PR := fun q => (Qn X (some (vi r)) M) = Qn X (some (vi q)) M) h (fun x o hh hP hE hR => ts_X12_highest_7 hX hs x1 M x o hh hP hE hR) (fun z_4 h => ?_) (fun q h => ?_)
  · show V X 0 0 (Qn X (some (vi r)) M) 31 [none, none, some (vi z_4)] [] M
    refine x_iloadn hX dX12_highest_31 rfl ?_
    cases h
    exact x_iret hX dX12_highest_32 rfl
  · cases h; rfl
set_option maxRecDepth 100000 in
set_option maxHeartbeats 4000000 in
theorem c_X12_through {l : Launch} {G : Gx} (hG : GOK G) (hl : l.stackTraces = false) (hs : SOK G)  (M : Mem) (r : Int) (h : f_X12_through M = some r) : Cn l G mX12_through 1 [vr G 139] M (some (vi r)) M := by
  refine Cn_of2 (ls := [some (vr G 139)]) hG hl kX12_through rfl (Nat.le_of_ble_eq_true rfl) rfl rfl rfl rfl rfl (fun X eG el hX => ?_)
  subst eG; subst el
  unfold f_X12_through at h
  refine x_aloadn hX dX12_through_0 rfl ?_
  refine x_getRj (j := 140) hX dX12_through_1 fl_X12_7 rfl (st139 hs) rfl ?_
  refine x_iconst hX dX12_through_4 ?_
  refine x_iald hX dX12_through_5 (st140 hs) inc_1_469 ixc_1 ?_
  refine x_iconst hX dX12_through_6 ?_
  refine x_iadd hX dX12_through_7 ?_
  cases h
  exact x_iret hX dX12_through_8 rfl
set_option maxRecDepth 100000 in
set_option maxHeartbeats 4000000 in
theorem ts_X12_common_4 {X : Cxt} (hX : Gd X RX12 cX12_common 5 (some .int) 1)  (M : Mem) (x2 : Int) (x3 : Int) {Q : State → Prop} (o : (Int × Int) ⊕ ((Int) ⊕ (Int))) (h : s_X12_common_4 M x2 x3 = some o) (hP : ∀ y, o = .inl y → V X 0 0 Q 4 [none, none, some (vi y.1), some (vi y.2), none] [] M) (hE : ∀ z, o = .inr (.inl z) → V X 0 0 Q 21 [none, none, some (vi z), none, none] [] M) (hR : ∀ q, o = .inr (.inr q) → Q = Qn X (some (vi q)) M) : V X 0 0 Q 4 [none, none, some (vi x2), some (vi x3), none] [] M := by
  unfold s_X12_common_4 at h
  refine x_iloadn hX dX12_common_4 rfl ?_
  refine x_if_eq (tgt := 21) hX dX12_common_5 (by decide) rfl (fun hc => ?_) (fun hc => ?_)
  · replace h := (if_pos hc).symm.trans h
    exact x_weak [false, false, true, false, false] rfl (hE x2 (Option.some.inj h).symm)
  · replace h := (if_neg hc).symm.trans h
    refine x_iloadn hX dX12_common_8 rfl ?_
    refine x_iloadn hX dX12_common_9 rfl ?_
    obtain ⟨b_1, h⟩ := gn_of h
    refine x_irem hX dX12_common_10 b_1 ?_
    obtain ⟨x4_2, ex4_2, h⟩ := bnd_of h
    refine x_istore (ls' := [none, none, some (vi x2), some (vi x3), some (vi x4_2)]) hX dX12_common_11 rfl ex4_2 rfl ?_
    refine x_iloadn hX dX12_common_13 rfl ?_
    refine x_istoren (ls' := [none, none, some (vi x3), some (vi x3), some (vi x4_2)]) hX dX12_common_14 rfl rfl rfl ?_
    refine x_iload hX dX12_common_15 rfl ?_
    refine x_istoren (ls' := [none, none, some (vi x3), some (vi x4_2), some (vi x4_2)]) hX dX12_common_17 rfl rfl rfl ?_
    refine x_goto (tgt := 4) hX dX12_common_18 (by decide) ?_
    exact x_weak [false, false, true, true, false] rfl (hP (x3, x4_2) (Option.some.inj h).symm)
set_option maxRecDepth 100000 in
set_option maxHeartbeats 4000000 in
theorem c_X12_common {l : Launch} {G : Gx} (hG : GOK G) (hl : l.stackTraces = false)  (x0 : Int) (x1 : Int) (M : Mem) (r : Int) (h : f_X12_common x0 x1 M = some r) : Cn l G mX12_common 1 [vi x0, vi x1] M (some (vi r)) M := by
  refine Cn_of2 (ls := [some (vi x0), some (vi x1), none, none, none]) hG hl kX12_common rfl (Nat.le_of_ble_eq_true rfl) rfl rfl rfl rfl rfl (fun X eG el hX => ?_)
  subst eG; subst el
  unfold f_X12_common at h
  refine x_iloadn hX dX12_common_0 rfl ?_
  refine x_istoren (ls' := [some (vi x0), some (vi x1), some (vi x0), none, none]) hX dX12_common_1 rfl rfl rfl ?_
  refine x_iloadn hX dX12_common_2 rfl ?_
  refine x_istoren (ls' := [some (vi x0), some (vi x1), some (vi x0), some (vi x1), none]) hX dX12_common_3 rfl rfl rfl ?_
  refine x_weak (ls' := [none, none, some (vi x0), some (vi x1), none]) [false, false, true, true, false] rfl ?_
  refine lp_use (x := (x0, x1)) (P := fun x => V X 0 0 (Qn X (some (vi r)) M) 4 [none, none, some (vi x.1), some (vi x.2), none] [] M) (PE := fun z_3 => V X 0 0 (Qn X (some (vi r)) M) 21 [none, none, some (vi z_3), none, none] [] M) (PR := fun q => (Qn X (some (vi r)) M) = Qn X (some (vi q)) M) h (fun x o hh hP hE hR => ts_X12_common_4 hX M x.1 x.2 o hh hP hE hR) (fun z_3 h => ?_) (fun q h => ?_)
  · show V X 0 0 (Qn X (some (vi r)) M) 21 [none, none, some (vi z_3), none, none] [] M
    refine x_iloadn hX dX12_common_21 rfl ?_
    cases h
    exact x_iret hX dX12_common_22 rfl
  · cases h; rfl
set_option maxRecDepth 100000 in
set_option maxHeartbeats 4000000 in
theorem c_X12_exchanges {l : Launch} {G : Gx} (hG : GOK G) (hl : l.stackTraces = false) (hs : SOK G)  (x1 : Int) (x2 : Int) (M : Mem) (Mr : Mem) (h : f_X12_exchanges x1 x2 M = some Mr) : Cn l G mX12_exchanges 1 [vr G 139, vi x1, vi x2] M none Mr := by
  refine Cn_of2 (ls := [some (vr G 139), some (vi x1), some (vi x2), none]) hG hl kX12_exchanges rfl (Nat.le_of_ble_eq_true rfl) rfl rfl rfl rfl rfl (fun X eG el hX => ?_)
  subst eG; subst el
  unfold f_X12_exchanges at h
  refine x_aloadn hX dX12_exchanges_0 rfl ?_
  refine x_getRj (j := 149) hX dX12_exchanges_1 fl_X12_38 rfl (st139 hs) rfl ?_
  refine x_iloadn hX dX12_exchanges_4 rfl ?_
  obtain ⟨b_1, h⟩ := gi_of h
  refine x_iald hX dX12_exchanges_5 (st149 hs) b_1 rfl ?_
  obtain ⟨x3_2, ex3_2, h⟩ := bnd_of h
  refine x_istoren (ls' := [some (vr (xG X) 139), some (vi x1), some (vi x2), some (vi x3_2)]) hX dX12_exchanges_6 rfl ex3_2 rfl ?_
  refine x_aloadn hX dX12_exchanges_7 rfl ?_
  refine x_getRj (j := 149) hX dX12_exchanges_8 fl_X12_38 rfl (st139 hs) rfl ?_
  refine x_iloadn hX dX12_exchanges_11 rfl ?_
  refine x_aloadn hX dX12_exchanges_12 rfl ?_
  refine x_getRj (j := 149) hX dX12_exchanges_13 fl_X12_38 rfl (st139 hs) rfl ?_
  refine x_iloadn hX dX12_exchanges_16 rfl ?_
  obtain ⟨b_3, h⟩ := gi_of h
  refine x_iald hX dX12_exchanges_17 (st149 hs) b_3 rfl ?_
  obtain ⟨b_5, h⟩ := gi_of h
  obtain ⟨M_4, eM_4, h⟩ := bnd_of h
  refine x_iast hX dX12_exchanges_18 (st149 hs) b_5 rfl (x_meq eM_4 ?_)
  refine x_aloadn hX dX12_exchanges_19 rfl ?_
  refine x_getRj (j := 149) hX dX12_exchanges_20 fl_X12_38 rfl (st139 hs) rfl ?_
  refine x_iloadn hX dX12_exchanges_23 rfl ?_
  refine x_iloadn hX dX12_exchanges_24 rfl ?_
  obtain ⟨b_7, h⟩ := gi_of h
  obtain ⟨M_6, eM_6, h⟩ := bnd_of h
  refine x_iast hX dX12_exchanges_25 (st149 hs) b_7 rfl (x_meq eM_6 ?_)
  cases h
  exact x_vret hX dX12_exchanges_26 rfl
set_option maxRecDepth 100000 in
set_option maxHeartbeats 4000000 in
theorem ts_X12_keepsBest_2 {X : Cxt} (hX : Gd X RX12 cX12_keepsBest 2 (none) 1) (hs : SOK (xG X))  (x1 : Int) (M : Mem) {Q : State → Prop} (o : (Int × Mem) ⊕ ((Mem) ⊕ (Mem))) (h : s_X12_keepsBest_2 x1 M = some o) (hP : ∀ y, o = .inl y → V X 0 0 Q 2 [some (vr (xG X) 139), some (vi y.1)] [] y.2) (hE : ∀ z, o = .inr (.inl z) → V X 0 0 Q 30 [none, none] [] z) (hR : ∀ q, o = .inr (.inr q) → Q = Qn X none q) : V X 0 0 Q 2 [some (vr (xG X) 139), some (vi x1)] [] M := by
  unfold s_X12_keepsBest_2 at h
  refine x_iloadn hX dX12_keepsBest_2 rfl ?_
  refine x_aloadn hX dX12_keepsBest_3 rfl ?_
  refine x_getRj (j := 140) hX dX12_keepsBest_4 fl_X12_7 rfl (st139 hs) rfl ?_
  refine x_iconst hX dX12_keepsBest_7 ?_
  refine x_iald hX dX12_keepsBest_8 (st140 hs) inc_5_469 ixc_5 ?_
  refine x_icmp_ge (tgt := 30) hX dX12_keepsBest_9 (by decide) rfl rfl (fun hc => ?_) (fun hc => ?_)
  · replace h := (if_pos hc).symm.trans h
    refine x_aloadn hX dX12_keepsBest_12 rfl ?_
    refine x_getRj (j := 153) hX dX12_keepsBest_13 fl_X12_50 rfl (st139 hs) rfl ?_
    refine x_iloadn hX dX12_keepsBest_16 rfl ?_
    refine x_aloadn hX dX12_keepsBest_17 rfl ?_
    refine x_getRj (j := 149) hX dX12_keepsBest_18 fl_X12_38 rfl (st139 hs) rfl ?_
    refine x_iloadn hX dX12_keepsBest_21 rfl ?_
    obtain ⟨b_1, h⟩ := gi_of h
    refine x_iald hX dX12_keepsBest_22 (st149 hs) b_1 rfl ?_
    obtain ⟨b_3, h⟩ := gi_of h
    obtain ⟨M_2, eM_2, h⟩ := bnd_of h
    refine x_iast hX dX12_keepsBest_23 (st153 hs) b_3 rfl (x_meq eM_2 ?_)
    obtain ⟨x1_4, ex1_4, h⟩ := bnd_of h
    refine x_iinc (ls' := [some (vr (xG X) 139), some (vi x1_4)]) hX dX12_keepsBest_24 rfl rfl ex1_4 rfl ?_
    refine x_goto (tgt := 2) hX dX12_keepsBest_27 (by decide) ?_
    exact x_weak [true, true] rfl (hP (x1_4, M_2) (Option.some.inj h).symm)
  · replace h := (if_neg hc).symm.trans h
    exact x_weak [false, false] rfl (hE M (Option.some.inj h).symm)
set_option maxRecDepth 100000 in
set_option maxHeartbeats 4000000 in
theorem c_X12_keepsBest {l : Launch} {G : Gx} (hG : GOK G) (hl : l.stackTraces = false) (hs : SOK G)  (M : Mem) (Mr : Mem) (h : f_X12_keepsBest M = some Mr) : Cn l G mX12_keepsBest 1 [vr G 139] M none Mr := by
  refine Cn_of2 (ls := [some (vr G 139), none]) hG hl kX12_keepsBest rfl (Nat.le_of_ble_eq_true rfl) rfl rfl rfl rfl rfl (fun X eG el hX => ?_)
  subst eG; subst el
  unfold f_X12_keepsBest at h
  refine x_iconst hX dX12_keepsBest_0 ?_
  refine x_istoren (ls' := [some (vr (xG X) 139), some (vi 0)]) hX dX12_keepsBest_1 rfl rfl rfl ?_
  refine x_weak (ls' := [some (vr (xG X) 139), some (vi 0)]) [true, true] rfl ?_
  refine lp_use (x := (0, M)) (P := fun x => V X 0 0 (Qn X none Mr) 2 [some (vr (xG X) 139), some (vi x.1)] [] x.2) (PE := fun z_5 => V X 0 0 (Qn X none Mr) 30 [none, none] [] z_5) (PR := fun q => (Qn X none Mr) = Qn X none q) h (fun x o hh hP hE hR => ts_X12_keepsBest_2 hX hs x.1 x.2 o hh hP hE hR) (fun z_5 h => ?_) (fun q h => ?_)
  · show V X 0 0 (Qn X none Mr) 30 [none, none] [] z_5
    cases h
    exact x_vret hX dX12_keepsBest_30 rfl
  · cases h; rfl
set_option maxRecDepth 100000 in
set_option maxHeartbeats 4000000 in
theorem ts_X12_appendText_33 {X : Cxt} (hX : Gd X RX12 cX12_appendText 3 (some .int) 1) (hs : SOK (xG X))  (x1 : Int) (x2 : Int) (M : Mem) {Q : State → Prop} (o : (Int × Mem) ⊕ ((Mem) ⊕ (Int × Mem))) (h : s_X12_appendText_33 x1 x2 M = some o) (hP : ∀ y, o = .inl y → V X 0 0 Q 33 [some (vr (xG X) 139), some (vi x1), some (vi y.1)] [] y.2) (hE : ∀ z, o = .inr (.inl z) → V X 0 0 Q 66 [some (vr (xG X) 139), none, none] [] z) (hR : ∀ q, o = .inr (.inr q) → Q = Qn X (some (vi q.1)) q.2) : V X 0 0 Q 33 [some (vr (xG X) 139), some (vi x1), some (vi x2)] [] M := by
  unfold s_X12_appendText_33 at h
  refine x_iloadn hX dX12_appendText_33 rfl ?_
  refine x_if_lt (tgt := 66) hX dX12_appendText_34 (by decide) rfl (fun hc => ?_) (fun hc => ?_)
  · replace h := (if_pos hc).symm.trans h
    exact x_weak [true, false, false] rfl (hE M (Option.some.inj h).symm)
  · replace h := (if_neg hc).symm.trans h
    refine x_aloadn hX dX12_appendText_37 rfl ?_
    refine x_getRj (j := 155) hX dX12_appendText_38 fl_X12_56 rfl (st139 hs) rfl ?_
    refine x_aloadn hX dX12_appendText_41 rfl ?_
    refine x_getI hX dX12_appendText_42 fl_X12_353 rfl (st139 hs) ?_
    refine x_iloadn hX dX12_appendText_45 rfl ?_
    refine x_iloadn hX dX12_appendText_46 rfl ?_
    refine x_ishr hX dX12_appendText_47 ?_
    refine x_i2b hX dX12_appendText_48 ?_
    obtain ⟨b_3, h⟩ := gi_of h
    obtain ⟨M_2, eM_2, h⟩ := bnd_of h
    refine x_bast hX dX12_appendText_49 (st155 hs) b_3 rfl (x_meq eM_2 ?_)
    refine x_aloadn hX dX12_appendText_50 rfl ?_
    refine x_dup hX dX12_appendText_51 rfl ?_
    refine x_getI hX dX12_appendText_52 fl_X12_353 rfl (st139 hs) ?_
    refine x_iconst hX dX12_appendText_55 ?_
    refine x_iadd hX dX12_appendText_56 ?_
    obtain ⟨M_4, eM_4, h⟩ := bnd_of h
    refine x_putI hX dX12_appendText_57 fp_X12_353 rfl (st139 hs) (x_meq eM_4 ?_)
    obtain ⟨x2_5, ex2_5, h⟩ := bnd_of h
    refine x_iinc (ls' := [some (vr (xG X) 139), some (vi x1), some (vi x2_5)]) hX dX12_appendText_60 rfl rfl ex2_5 rfl ?_
    refine x_goto (tgt := 33) hX dX12_appendText_63 (by decide) ?_
    exact x_weak [true, true, true] rfl (hP (x2_5, M_4) (Option.some.inj h).symm)
set_option maxRecDepth 100000 in
set_option maxHeartbeats 4000000 in
theorem tj_X12_appendText_18 {X : Cxt} (hX : Gd X RX12 cX12_appendText 3 (some .int) 1) (hs : SOK (xG X))   (x1 : Int) (y1 : Int) (M : Mem) (r : Int) (Mr : Mem) (h : j_X12_appendText_18 x1 y1 M = some (r, Mr)) : V X 0 0 (Qn X (some (vi r)) Mr) 18 [some (vr (xG X) 139), some (vi x1), none] [vi y1, vr (xG X) 139] M := by
  unfold j_X12_appendText_18 at h
  obtain ⟨M_1, eM_1, h⟩ := bnd_of h
  refine x_putI hX dX12_appendText_18 fp_X12_70 rfl (st139 hs) (x_meq eM_1 ?_)
  refine x_aloadn hX dX12_appendText_21 rfl ?_
  refine x_getI hX dX12_appendText_22 fl_X12_70 rfl (st139 hs) ?_
  refine x_if_le (tgt := 30) hX dX12_appendText_25 (by decide) rfl (fun hc => ?_) (fun hc => ?_)
  · replace h := (if_pos hc).symm.trans h
    refine x_iconst hX dX12_appendText_28 ?_
    cases h
    exact x_iret hX dX12_appendText_29 rfl
  · replace h := (if_neg hc).symm.trans h
    refine x_bipush hX dX12_appendText_30 bp_24 ?_
    refine x_istoren (ls' := [some (vr (xG X) 139), some (vi x1), some (vi 24)]) hX dX12_appendText_32 rfl rfl rfl ?_
    refine x_weak (ls' := [some (vr (xG X) 139), some (vi x1), some (vi 24)]) [true, true, true] rfl ?_
    refine lp_use (x := (24, M_1)) (P := fun x => V X 0 0 (Qn X (some (vi r)) Mr) 33 [some (vr (xG X) 139), some (vi x1), some (vi x.1)] [] x.2) (PE := fun z_6 => V X 0 0 (Qn X (some (vi r)) Mr) 66 [some (vr (xG X) 139), none, none] [] z_6) (PR := fun q => (Qn X (some (vi r)) Mr) = Qn X (some (vi q.1)) q.2) h (fun x o hh hP hE hR => ts_X12_appendText_33 hX hs x1 x.1 x.2 o hh hP hE hR) (fun z_6 h => ?_) (fun q h => ?_)
    · show V X 0 0 (Qn X (some (vi r)) Mr) 66 [some (vr (xG X) 139), none, none] [] z_6
      refine x_aloadn hX dX12_appendText_66 rfl ?_
      refine x_getI hX dX12_appendText_67 fl_X12_353 rfl (st139 hs) ?_
      cases h
      exact x_iret hX dX12_appendText_70 rfl
    · cases h; rfl
set_option maxRecDepth 100000 in
set_option maxHeartbeats 4000000 in
theorem c_X12_appendText {l : Launch} {G : Gx} (hG : GOK G) (hl : l.stackTraces = false) (hs : SOK G)  (x1 : Int) (M : Mem) (r : Int) (Mr : Mem) (h : f_X12_appendText x1 M = some (r, Mr)) : Cn l G mX12_appendText 1 [vr G 139, vi x1] M (some (vi r)) Mr := by
  refine Cn_of2 (ls := [some (vr G 139), some (vi x1), none]) hG hl kX12_appendText rfl (Nat.le_of_ble_eq_true rfl) rfl rfl rfl rfl rfl (fun X eG el hX => ?_)
  subst eG; subst el
  unfold f_X12_appendText at h
  refine x_aloadn hX dX12_appendText_0 rfl ?_
  refine x_aloadn hX dX12_appendText_1 rfl ?_
  refine x_getI hX dX12_appendText_2 fl_X12_353 rfl (st139 hs) ?_
  refine x_iconst hX dX12_appendText_5 ?_
  refine x_iadd hX dX12_appendText_6 ?_
  refine x_sipush hX dX12_appendText_7 sp_600 ?_
  refine x_icmp_gt (tgt := 17) hX dX12_appendText_10 (by decide) rfl cw_600 (fun hc => ?_) (fun hc => ?_)
  · replace h := (if_pos hc).symm.trans h
    refine x_iconst hX dX12_appendText_17 ?_
    exact x_weak [true, true, false] rfl (tj_X12_appendText_18 hX hs x1 1 M r Mr h)
  · replace h := (if_neg hc).symm.trans h
    refine x_iconst hX dX12_appendText_13 ?_
    refine x_goto (tgt := 18) hX dX12_appendText_14 (by decide) ?_
    exact x_weak [true, true, false] rfl (tj_X12_appendText_18 hX hs x1 0 M r Mr h)
set_option maxRecDepth 100000 in
set_option maxHeartbeats 4000000 in
theorem c_X12_see {l : Launch} {G : Gx} (hG : GOK G) (hl : l.stackTraces = false) (hs : SOK G)  (M : Mem) (r : Int) (h : f_X12_see M = some r) : Cn l G mX12_see 1 [vr G 139] M (some (vi r)) M := by
  refine Cn_of2 (ls := [some (vr G 139)]) hG hl kX12_see rfl (Nat.le_of_ble_eq_true rfl) rfl rfl rfl rfl rfl (fun X eG el hX => ?_)
  subst eG; subst el
  unfold f_X12_see at h
  refine x_aloadn hX dX12_see_0 rfl ?_
  refine x_getI hX dX12_see_1 fl_X12_356 rfl (st139 hs) ?_
  refine x_aloadn hX dX12_see_4 rfl ?_
  refine x_getI hX dX12_see_5 fl_X12_353 rfl (st139 hs) ?_
  refine x_icmp_ge (tgt := 27) hX dX12_see_8 (by decide) rfl rfl (fun hc => ?_) (fun hc => ?_)
  · replace h := (if_pos hc).symm.trans h
    refine x_aloadn hX dX12_see_11 rfl ?_
    refine x_getRj (j := 155) hX dX12_see_12 fl_X12_56 rfl (st139 hs) rfl ?_
    refine x_aloadn hX dX12_see_15 rfl ?_
    refine x_getI hX dX12_see_16 fl_X12_356 rfl (st139 hs) ?_
    obtain ⟨b_1, h⟩ := gi_of h
    refine x_bald hX dX12_see_19 (st155 hs) b_1 rfl ?_
    refine x_sipush hX dX12_see_20 sp_255 ?_
    refine x_iand hX dX12_see_23 ?_
    refine x_goto (tgt := 28) hX dX12_see_24 (by decide) ?_
    cases h
    exact x_iret hX dX12_see_28 rfl
  · replace h := (if_neg hc).symm.trans h
    refine x_iconst hX dX12_see_27 ?_
    cases h
    exact x_iret hX dX12_see_28 rfl
set_option maxRecDepth 100000 in
set_option maxHeartbeats 4000000 in
theorem c_X12_fails {l : Launch} {G : Gx} (hG : GOK G) (hl : l.stackTraces = false) (hs : SOK G)  (x1 : Int) (M : Mem) (Mr : Mem) (h : f_X12_fails x1 M = some Mr) : Cn l G mX12_fails 1 [vr G 139, vi x1] M none Mr := by
  refine Cn_of2 (ls := [some (vr G 139), some (vi x1)]) hG hl kX12_fails rfl (Nat.le_of_ble_eq_true rfl) rfl rfl rfl rfl rfl (fun X eG el hX => ?_)
  subst eG; subst el
  unfold f_X12_fails at h
  refine x_aloadn hX dX12_fails_0 rfl ?_
  refine x_getI hX dX12_fails_1 fl_X12_378 rfl (st139 hs) ?_
  refine x_if_ne (tgt := 20) hX dX12_fails_4 (by decide) rfl (fun hc => ?_) (fun hc => ?_)
  · replace h := (if_pos hc).symm.trans h
    refine x_aloadn hX dX12_fails_7 rfl ?_
    refine x_iloadn hX dX12_fails_8 rfl ?_
    obtain ⟨M_1, eM_1, h⟩ := bnd_of h
    refine x_putI hX dX12_fails_9 fp_X12_378 rfl (st139 hs) (x_meq eM_1 ?_)
    refine x_aloadn hX dX12_fails_12 rfl ?_
    refine x_aloadn hX dX12_fails_13 rfl ?_
    refine x_getI hX dX12_fails_14 fl_X12_362 rfl (st139 hs) ?_
    obtain ⟨M_2, eM_2, h⟩ := bnd_of h
    refine x_putI hX dX12_fails_17 fp_X12_60 rfl (st139 hs) (x_meq eM_2 ?_)
    cases h
    exact x_vret hX dX12_fails_20 rfl
  · replace h := (if_neg hc).symm.trans h
    cases h
    exact x_vret hX dX12_fails_20 rfl
set_option maxRecDepth 100000 in
set_option maxHeartbeats 4000000 in
theorem c_X12_isWell {l : Launch} {G : Gx} (hG : GOK G) (hl : l.stackTraces = false) (hs : SOK G)  (M : Mem) (r : Int) (h : f_X12_isWell M = some r) : Cn l G mX12_isWell 1 [vr G 139] M (some (vi r)) M := by
  refine Cn_of2 (ls := [some (vr G 139)]) hG hl kX12_isWell rfl (Nat.le_of_ble_eq_true rfl) rfl rfl rfl rfl rfl (fun X eG el hX => ?_)
  subst eG; subst el
  unfold f_X12_isWell at h
  refine x_aloadn hX dX12_isWell_0 rfl ?_
  refine x_getI hX dX12_isWell_1 fl_X12_378 rfl (st139 hs) ?_
  refine x_if_ne (tgt := 11) hX dX12_isWell_4 (by decide) rfl (fun hc => ?_) (fun hc => ?_)
  · replace h := (if_pos hc).symm.trans h
    refine x_iconst hX dX12_isWell_7 ?_
    refine x_goto (tgt := 12) hX dX12_isWell_8 (by decide) ?_
    cases h
    exact x_zret hX dX12_isWell_12 (Or.inr cw_1) rfl
  · replace h := (if_neg hc).symm.trans h
    refine x_iconst hX dX12_isWell_11 ?_
    cases h
    exact x_zret hX dX12_isWell_12 (Or.inl cw_0) rfl
