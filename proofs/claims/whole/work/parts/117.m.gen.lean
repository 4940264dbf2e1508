-- written by wip/gen/emit.py: X12_weightOfAll, X12_aislesOfAll, X12_canAll, X12_routeOf, X12_goes, X12_sortsBy, X12_seeksSequence, X12_pickedUnits, X12_shortUnits, X12_totalOrdered, X12_totalPicked, X12_reorder, X12_read, X12_ends, X12_readPolicy
set_option maxRecDepth 100000 in
set_option maxHeartbeats 4000000 in
theorem tj_X12_weightOfAll_28_4 {X : Cxt} (hX : Gd X RX12 cX12_weightOfAll 4 (some .int) 4) (hs : SOK (xG X))   (x1 : Int) (x3 : Int) (y0 : Int) (y1 : Int) (M : Mem) {Q : State → Prop} (o : (Int × Int) ⊕ ((Int) ⊕ (Int))) (h : j_X12_weightOfAll_28_4 x1 x3 y0 y1 M = some o) (hP : ∀ y, o = .inl y → V X 0 0 Q 4 [some (vr (xG X) 139), some (vi x1), some (vi y.1), some (vi y.2)] [] M) (hE : ∀ z, o = .inr (.inl z) → V X 0 0 Q 36 [none, none, some (vi z), none] [] M) (hR : ∀ q, o = .inr (.inr q) → Q = Qn X (some (vi q)) M) : V X 0 0 Q 28 [some (vr (xG X) 139), some (vi x1), none, some (vi x3)] [vi y1, vi y0] M := by
  unfold j_X12_weightOfAll_28_4 at h
  refine x_iadd hX dX12_weightOfAll_28 ?_
  obtain ⟨x2_3, ex2_3, h⟩ := bnd_of h
  refine x_istoren (ls' := [some (vr (xG X) 139), some (vi x1), some (vi x2_3), some (vi x3)]) hX dX12_weightOfAll_29 rfl ex2_3 rfl ?_
  obtain ⟨x3_4, ex3_4, h⟩ := bnd_of h
  refine x_iinc (ls' := [some (vr (xG X) 139), some (vi x1), some (vi x2_3), some (vi x3_4)]) hX dX12_weightOfAll_30 rfl rfl ex3_4 rfl ?_
  refine x_goto (tgt := 4) hX dX12_weightOfAll_33 (by decide) ?_
  exact x_weak [true, true, true, true] rfl (hP (x2_3, x3_4) (Option.some.inj h).symm)
set_option maxRecDepth 100000 in
set_option maxHeartbeats 4000000 in
theorem ts_X12_weightOfAll_4 {X : Cxt} (hX : Gd X RX12 cX12_weightOfAll 4 (some .int) 4) (hs : SOK (xG X))  (x1 : Int) (M : Mem) (x2 : Int) (x3 : Int) {Q : State → Prop} (o : (Int × Int) ⊕ ((Int) ⊕ (Int))) (h : s_X12_weightOfAll_4 x1 M x2 x3 = some o) (hP : ∀ y, o = .inl y → V X 0 0 Q 4 [some (vr (xG X) 139), some (vi x1), some (vi y.1), some (vi y.2)] [] M) (hE : ∀ z, o = .inr (.inl z) → V X 0 0 Q 36 [none, none, some (vi z), none] [] M) (hR : ∀ q, o = .inr (.inr q) → Q = Qn X (some (vi q)) M) : V X 0 0 Q 4 [some (vr (xG X) 139), some (vi x1), some (vi x2), some (vi x3)] [] M := by
  unfold s_X12_weightOfAll_4 at h
  refine x_iloadn hX dX12_weightOfAll_4 rfl ?_
  refine x_bipush hX dX12_weightOfAll_5 bp_16 ?_
  refine x_icmp_ge (tgt := 36) hX dX12_weightOfAll_7 (by decide) rfl cw_16 (fun hc => ?_) (fun hc => ?_)
  · replace h := (if_pos hc).symm.trans h
    refine x_iloadn hX dX12_weightOfAll_10 rfl ?_
    refine x_iloadn hX dX12_weightOfAll_11 rfl ?_
    refine x_iloadn hX dX12_weightOfAll_12 rfl ?_
    obtain ⟨r_1, er_1, h⟩ := cl1_of h
    refine x_callSi (As := [vi x1, vi x3]) (rest := [vi x2]) hX dX12_weightOfAll_13 (c_X12_has (gk hX) (gl hX) x1 x3 M _ er_1) kX12_has sX12_has w_1868 rfl rfl rfl (Nat.le_of_ble_eq_true rfl) z0 ?_
    refine x_if_eq (tgt := 27) hX dX12_weightOfAll_16 (by decide) rfl (fun hc => ?_) (fun hc => ?_)
    · replace h := (if_pos hc).symm.trans h
      refine x_iconst hX dX12_weightOfAll_27 ?_
      exact x_weak [true, true, false, true] rfl (tj_X12_weightOfAll_28_4 hX hs x1 x3 x2 0 M o h hP hE hR)
    · replace h := (if_neg hc).symm.trans h
      refine x_aloadn hX dX12_weightOfAll_19 rfl ?_
      refine x_iloadn hX dX12_weightOfAll_20 rfl ?_
      obtain ⟨r_5, er_5, h⟩ := cl1_of h
      refine x_callVi (t := 11) (As := [vi x3]) (rest := [vi x2]) hX dX12_weightOfAll_21 (c_X12_weightOf (gk hX) (gl hX) hs x3 M _ er_5) kX12_weightOf vX12_weightOf w_1844 (st139 hs) rfl rfl rfl rfl (Nat.le_of_ble_eq_true rfl) z0 ?_
      refine x_goto (tgt := 28) hX dX12_weightOfAll_24 (by decide) ?_
      exact x_weak [true, true, false, true] rfl (tj_X12_weightOfAll_28_4 hX hs x1 x3 x2 r_5 M o h hP hE hR)
  · replace h := (if_neg hc).symm.trans h
    exact x_weak [false, false, true, false] rfl (hE x2 (Option.some.inj h).symm)
set_option maxRecDepth 100000 in
set_option maxHeartbeats 4000000 in
theorem c_X12_weightOfAll {l : Launch} {G : Gx} (hG : GOK G) (hl : l.stackTraces = false) (hs : SOK G)  (x1 : Int) (M : Mem) (r : Int) (h : f_X12_weightOfAll x1 M = some r) : Cn l G mX12_weightOfAll 4 [vr G 139, vi x1] M (some (vi r)) M := by
  refine Cn_of2 (ls := [some (vr G 139), some (vi x1), none, none]) hG hl kX12_weightOfAll rfl (Nat.le_of_ble_eq_true rfl) rfl rfl rfl rfl rfl (fun X eG el hX => ?_)
  subst eG; subst el
  unfold f_X12_weightOfAll at h
  refine x_iconst hX dX12_weightOfAll_0 ?_
  refine x_istoren (ls' := [some (vr (xG X) 139), some (vi x1), some (vi 0), none]) hX dX12_weightOfAll_1 rfl rfl rfl ?_
  refine x_iconst hX dX12_weightOfAll_2 ?_
  refine x_istoren (ls' := [some (vr (xG X) 139), some (vi x1), some (vi 0), some (vi 0)]) hX dX12_weightOfAll_3 rfl rfl rfl ?_
  refine x_weak (ls' := [some (vr (xG X) 139), some (vi x1), some (vi 0), some (vi 0)]) [true, true, true, true] rfl ?_
  refine lp_use (x := (0, 0)) (P := fun x => V X 0 0 (Qn X (some (vi r)) M) 4 [some (vr (xG X) 139), some (vi x1), some (vi x.1), some (vi x.2)] [] M) (PE := fun z_7 => V X 0 0 (Qn X (some (vi r)) M) 36 [none, none, some (vi z_7), none] [] M) (PR := fun q => (Qn X (some (vi r)) M) = Qn X (some (vi q)) M) h (fun x o hh hP hE hR => ts_X12_weightOfAll_4 hX hs x1 M x.1 x.2 o hh hP hE hR) (fun z_7 h => ?_) (fun q h => ?_)
  · show V X 0 0 (Qn X (some (vi r)) M) 36 [none, none, some (vi z_7), none] [] M
    refine x_iloadn hX dX12_weightOfAll_36 rfl ?_
    cases h
    exact x_iret hX dX12_weightOfAll_37 rfl
  · cases h; rfl
set_option maxRecDepth 100000 in
set_option maxHeartbeats 4000000 in
theorem tj_X12_aislesOfAll_28_4 {X : Cxt} (hX : Gd X RX12 cX12_aislesOfAll 4 (some .int) 4) (hs : SOK (xG X))   (x1 : Int) (x3 : Int) (y0 : Int) (y1 : Int) (M : Mem) {Q : State → Prop} (o : (Int × Int) ⊕ ((Int) ⊕ (Int))) (h : j_X12_aislesOfAll_28_4 x1 x3 y0 y1 M = some o) (hP : ∀ y, o = .inl y → V X 0 0 Q 4 [some (vr (xG X) 139), some (vi x1), some (vi y.1), some (vi y.2)] [] M) (hE : ∀ z, o = .inr (.inl z) → V X 0 0 Q 36 [none, none, some (vi z), none] [] M) (hR : ∀ q, o = .inr (.inr q) → Q = Qn X (some (vi q)) M) : V X 0 0 Q 28 [some (vr (xG X) 139), some (vi x1), none, some (vi x3)] [vi y1, vi y0] M := by
  unfold j_X12_aislesOfAll_28_4 at h
  refine x_ior hX dX12_aislesOfAll_28 ?_
  obtain ⟨x2_3, ex2_3, h⟩ := bnd_of h
  refine x_istoren (ls' := [some (vr (xG X) 139), some (vi x1), some (vi x2_3), some (vi x3)]) hX dX12_aislesOfAll_29 rfl ex2_3 rfl ?_
  obtain ⟨x3_4, ex3_4, h⟩ := bnd_of h
  refine x_iinc (ls' := [some (vr (xG X) 139), some (vi x1), some (vi x2_3), some (vi x3_4)]) hX dX12_aislesOfAll_30 rfl rfl ex3_4 rfl ?_
  refine x_goto (tgt := 4) hX dX12_aislesOfAll_33 (by decide) ?_
  exact x_weak [true, true, true, true] rfl (hP (x2_3, x3_4) (Option.some.inj h).symm)
set_option maxRecDepth 100000 in
set_option maxHeartbeats 4000000 in
theorem ts_X12_aislesOfAll_4 {X : Cxt} (hX : Gd X RX12 cX12_aislesOfAll 4 (some .int) 4) (hs : SOK (xG X))  (x1 : Int) (M : Mem) (x2 : Int) (x3 : Int) {Q : State → Prop} (o : (Int × Int) ⊕ ((Int) ⊕ (Int))) (h : s_X12_aislesOfAll_4 x1 M x2 x3 = some o) (hP : ∀ y, o = .inl y → V X 0 0 Q 4 [some (vr (xG X) 139), some (vi x1), some (vi y.1), some (vi y.2)] [] M) (hE : ∀ z, o = .inr (.inl z) → V X 0 0 Q 36 [none, none, some (vi z), none] [] M) (hR : ∀ q, o = .inr (.inr q) → Q = Qn X (some (vi q)) M) : V X 0 0 Q 4 [some (vr (xG X) 139), some (vi x1), some (vi x2), some (vi x3)] [] M := by
  unfold s_X12_aislesOfAll_4 at h
  refine x_iloadn hX dX12_aislesOfAll_4 rfl ?_
  refine x_bipush hX dX12_aislesOfAll_5 bp_16 ?_
  refine x_icmp_ge (tgt := 36) hX dX12_aislesOfAll_7 (by decide) rfl cw_16 (fun hc => ?_) (fun hc => ?_)
  · replace h := (if_pos hc).symm.trans h
    refine x_iloadn hX dX12_aislesOfAll_10 rfl ?_
    refine x_iloadn hX dX12_aislesOfAll_11 rfl ?_
    refine x_iloadn hX dX12_aislesOfAll_12 rfl ?_
    obtain ⟨r_1, er_1, h⟩ := cl1_of h
    refine x_callSi (As := [vi x1, vi x3]) (rest := [vi x2]) hX dX12_aislesOfAll_13 (c_X12_has (gk hX) (gl hX) x1 x3 M _ er_1) kX12_has sX12_has w_1868 rfl rfl rfl (Nat.le_of_ble_eq_true rfl) z0 ?_
    refine x_if_eq (tgt := 27) hX dX12_aislesOfAll_16 (by decide) rfl (fun hc => ?_) (fun hc => ?_)
    · replace h := (if_pos hc).symm.trans h
      refine x_iconst hX dX12_aislesOfAll_27 ?_
      exact x_weak [true, true, false, true] rfl (tj_X12_aislesOfAll_28_4 hX hs x1 x3 x2 0 M o h hP hE hR)
    · replace h := (if_neg hc).symm.trans h
      refine x_aloadn hX dX12_aislesOfAll_19 rfl ?_
      refine x_iloadn hX dX12_aislesOfAll_20 rfl ?_
      obtain ⟨r_5, er_5, h⟩ := cl1_of h
      refine x_callVi (t := 11) (As := [vi x3]) (rest := [vi x2]) hX dX12_aislesOfAll_21 (c_X12_aislesOf (gk hX) (gl hX) hs x3 M _ er_5) kX12_aislesOf vX12_aislesOf w_1852 (st139 hs) rfl rfl rfl rfl (Nat.le_of_ble_eq_true rfl) z0 ?_
      refine x_goto (tgt := 28) hX dX12_aislesOfAll_24 (by decide) ?_
      exact x_weak [true, true, false, true] rfl (tj_X12_aislesOfAll_28_4 hX hs x1 x3 x2 r_5 M o h hP hE hR)
  · replace h := (if_neg hc).symm.trans h
    exact x_weak [false, false, true, false] rfl (hE x2 (Option.some.inj h).symm)
set_option maxRecDepth 100000 in
set_option maxHeartbeats 4000000 in
theorem c_X12_aislesOfAll {l : Launch} {G : Gx} (hG : GOK G) (hl : l.stackTraces = false) (hs : SOK G)  (x1 : Int) (M : Mem) (r : Int) (h : f_X12_aislesOfAll x1 M = some r) : Cn l G mX12_aislesOfAll 4 [vr G 139, vi x1] M (some (vi r)) M := by
  refine Cn_of2 (ls := [some (vr G 139), some (vi x1), none, none]) hG hl kX12_aislesOfAll rfl (Nat.le_of_ble_eq_true rfl) rfl rfl rfl rfl rfl (fun X eG el hX => ?_)
  subst eG; subst el
  unfold f_X12_aislesOfAll at h
  refine x_iconst hX dX12_aislesOfAll_0 ?_
  refine x_istoren (ls' := [some (vr (xG X) 139), some (vi x1), some (vi 0), none]) hX dX12_aislesOfAll_1 rfl rfl rfl ?_
  refine x_iconst hX dX12_aislesOfAll_2 ?_
  refine x_istoren (ls' := [some (vr (xG X) 139), some (vi x1), some (vi 0), some (vi 0)]) hX dX12_aislesOfAll_3 rfl rfl rfl ?_
  refine x_weak (ls' := [some (vr (xG X) 139), some (vi x1), some (vi 0), some (vi 0)]) [true, true, true, true] rfl ?_
  refine lp_use (x := (0, 0)) (P := fun x => V X 0 0 (Qn X (some (vi r)) M) 4 [some (vr (xG X) 139), some (vi x1), some (vi x.1), some (vi x.2)] [] M) (PE := fun z_7 => V X 0 0 (Qn X (some (vi r)) M) 36 [none, none, some (vi z_7), none] [] M) (PR := fun q => (Qn X (some (vi r)) M) = Qn X (some (vi q)) M) h (fun x o hh hP hE hR => ts_X12_aislesOfAll_4 hX hs x1 M x.1 x.2 o hh hP hE hR) (fun z_7 h => ?_) (fun q h => ?_)
  · show V X 0 0 (Qn X (some (vi r)) M) 36 [none, none, some (vi z_7), none] [] M
    refine x_iloadn hX dX12_aislesOfAll_36 rfl ?_
    cases h
    exact x_iret hX dX12_aislesOfAll_37 rfl
  · cases h; rfl
set_option maxRecDepth 100000 in
set_option maxHeartbeats 4000000 in
theorem tj_X12_canAll_39_4 {X : Cxt} (hX : Gd X RX12 cX12_canAll 4 (some .boolean) 4) (hs : SOK (xG X))   (x1 : Int) (x3 : Int) (y0 : Int) (M : Mem) {Q : State → Prop} (o : (Int × Int) ⊕ ((Int) ⊕ (Int))) (h : j_X12_canAll_39_4 x1 x3 y0 M = some o) (hP : ∀ y, o = .inl y → V X 0 0 Q 4 [some (vr (xG X) 139), some (vi x1), some (vi y.1), some (vi y.2)] [] M) (hE : ∀ z, o = .inr (.inl z) → V X 0 0 Q 46 [none, none, some (vi z), none] [] M) (hR : ∀ q, o = .inr (.inr q) → Q = Qn X (some (vi q)) M) : V X 0 0 Q 39 [some (vr (xG X) 139), some (vi x1), none, some (vi x3)] [vi y0] M := by
  unfold j_X12_canAll_39_4 at h
  refine x_istoren (ls' := [some (vr (xG X) 139), some (vi x1), some (vi y0), some (vi x3)]) hX dX12_canAll_39 rfl rfl rfl ?_
  obtain ⟨x3_1, ex3_1, h⟩ := bnd_of h
  refine x_iinc (ls' := [some (vr (xG X) 139), some (vi x1), some (vi y0), some (vi x3_1)]) hX dX12_canAll_40 rfl rfl ex3_1 rfl ?_
  refine x_goto (tgt := 4) hX dX12_canAll_43 (by decide) ?_
  exact x_weak [true, true, true, true] rfl (hP (y0, x3_1) (Option.some.inj h).symm)
set_option maxRecDepth 100000 in
set_option maxHeartbeats 4000000 in
theorem tj_X12_canAll_38_4 {X : Cxt} (hX : Gd X RX12 cX12_canAll 4 (some .boolean) 4) (hs : SOK (xG X))   (x1 : Int) (x3 : Int) (M : Mem) {Q : State → Prop} (o : (Int × Int) ⊕ ((Int) ⊕ (Int))) (h : j_X12_canAll_38_4 x1 x3 M = some o) (hP : ∀ y, o = .inl y → V X 0 0 Q 4 [some (vr (xG X) 139), some (vi x1), some (vi y.1), some (vi y.2)] [] M) (hE : ∀ z, o = .inr (.inl z) → V X 0 0 Q 46 [none, none, some (vi z), none] [] M) (hR : ∀ q, o = .inr (.inr q) → Q = Qn X (some (vi q)) M) : V X 0 0 Q 38 [some (vr (xG X) 139), some (vi x1), none, some (vi x3)] [] M := by
  unfold j_X12_canAll_38_4 at h
  refine x_iconst hX dX12_canAll_38 ?_
  exact x_weak [true, true, false, true] rfl (tj_X12_canAll_39_4 hX hs x1 x3 0 M o h hP hE hR)
set_option maxRecDepth 100000 in
set_option maxHeartbeats 4000000 in
theorem tj_X12_canAll_34_4 {X : Cxt} (hX : Gd X RX12 cX12_canAll 4 (some .boolean) 4) (hs : SOK (xG X))   (x1 : Int) (x3 : Int) (M : Mem) {Q : State → Prop} (o : (Int × Int) ⊕ ((Int) ⊕ (Int))) (h : j_X12_canAll_34_4 x1 x3 M = some o) (hP : ∀ y, o = .inl y → V X 0 0 Q 4 [some (vr (xG X) 139), some (vi x1), some (vi y.1), some (vi y.2)] [] M) (hE : ∀ z, o = .inr (.inl z) → V X 0 0 Q 46 [none, none, some (vi z), none] [] M) (hR : ∀ q, o = .inr (.inr q) → Q = Qn X (some (vi q)) M) : V X 0 0 Q 34 [some (vr (xG X) 139), some (vi x1), none, some (vi x3)] [] M := by
  unfold j_X12_canAll_34_4 at h
  refine x_iconst hX dX12_canAll_34 ?_
  refine x_goto (tgt := 39) hX dX12_canAll_35 (by decide) ?_
  exact x_weak [true, true, false, true] rfl (tj_X12_canAll_39_4 hX hs x1 x3 1 M o h hP hE hR)
set_option maxRecDepth 100000 in
set_option maxHeartbeats 4000000 in
theorem ts_X12_canAll_4 {X : Cxt} (hX : Gd X RX12 cX12_canAll 4 (some .boolean) 4) (hs : SOK (xG X))  (x1 : Int) (M : Mem) (x2 : Int) (x3 : Int) {Q : State → Prop} (o : (Int × Int) ⊕ ((Int) ⊕ (Int))) (h : s_X12_canAll_4 x1 M x2 x3 = some o) (hP : ∀ y, o = .inl y → V X 0 0 Q 4 [some (vr (xG X) 139), some (vi x1), some (vi y.1), some (vi y.2)] [] M) (hE : ∀ z, o = .inr (.inl z) → V X 0 0 Q 46 [none, none, some (vi z), none] [] M) (hR : ∀ q, o = .inr (.inr q) → Q = Qn X (some (vi q)) M) : V X 0 0 Q 4 [some (vr (xG X) 139), some (vi x1), some (vi x2), some (vi x3)] [] M := by
  unfold s_X12_canAll_4 at h
  refine x_iloadn hX dX12_canAll_4 rfl ?_
  refine x_aloadn hX dX12_canAll_5 rfl ?_
  refine x_getRj (j := 140) hX dX12_canAll_6 fl_X12_7 rfl (st139 hs) rfl ?_
  refine x_iconst hX dX12_canAll_9 ?_
  refine x_iald hX dX12_canAll_10 (st140 hs) inc_4_469 ixc_4 ?_
  refine x_icmp_ge (tgt := 46) hX dX12_canAll_11 (by decide) rfl rfl (fun hc => ?_) (fun hc => ?_)
  · replace h := (if_pos hc).symm.trans h
    refine x_iloadn hX dX12_canAll_14 rfl ?_
    refine x_if_eq (tgt := 38) hX dX12_canAll_15 (by decide) rfl (fun hc => ?_) (fun hc => ?_)
    · replace h := (if_pos hc).symm.trans h
      exact x_weak [true, true, false, true] rfl (tj_X12_canAll_38_4 hX hs x1 x3 M o h hP hE hR)
    · replace h := (if_neg hc).symm.trans h
      refine x_iloadn hX dX12_canAll_18 rfl ?_
      refine x_iloadn hX dX12_canAll_19 rfl ?_
      obtain ⟨r_2, er_2, h⟩ := cl1_of h
      refine x_callSi (As := [vi x1, vi x3]) (rest := []) hX dX12_canAll_20 (c_X12_has (gk hX) (gl hX) x1 x3 M _ er_2) kX12_has sX12_has w_1868 rfl rfl rfl (Nat.le_of_ble_eq_true rfl) z0 ?_
      refine x_if_eq (tgt := 34) hX dX12_canAll_23 (by decide) rfl (fun hc => ?_) (fun hc => ?_)
      · replace h := (if_pos hc).symm.trans h
        exact x_weak [true, true, false, true] rfl (tj_X12_canAll_34_4 hX hs x1 x3 M o h hP hE hR)
      · replace h := (if_neg hc).symm.trans h
        refine x_aloadn hX dX12_canAll_26 rfl ?_
        refine x_iloadn hX dX12_canAll_27 rfl ?_
        obtain ⟨r_4, er_4, h⟩ := cl1_of h
        refine x_callVi (t := 11) (As := [vi x3]) (rest := []) hX dX12_canAll_28 (c_X12_canBatch (gk hX) (gl hX) hs x3 M _ er_4) kX12_canBatch vX12_canBatch w_1884 (st139 hs) rfl rfl rfl rfl (Nat.le_of_ble_eq_true rfl) z0 ?_
        refine x_if_eq (tgt := 38) hX dX12_canAll_31 (by decide) rfl (fun hc => ?_) (fun hc => ?_)
        · replace h := (if_pos hc).symm.trans h
          exact x_weak [true, true, false, true] rfl (tj_X12_canAll_38_4 hX hs x1 x3 M o h hP hE hR)
        · replace h := (if_neg hc).symm.trans h
          exact x_weak [true, true, false, true] rfl (tj_X12_canAll_34_4 hX hs x1 x3 M o h hP hE hR)
  · replace h := (if_neg hc).symm.trans h
    exact x_weak [false, false, true, false] rfl (hE x2 (Option.some.inj h).symm)
set_option maxRecDepth 100000 in
set_option maxHeartbeats 4000000 in
theorem c_X12_canAll {l : Launch} {G : Gx} (hG : GOK G) (hl : l.stackTraces = false) (hs : SOK G)  (x1 : Int) (M : Mem) (r : Int) (h : f_X12_canAll x1 M = some r) : Cn l G mX12_canAll 4 [vr G 139, vi x1] M (some (vi r)) M := by
  refine Cn_of2 (ls := [some (vr G 139), some (vi x1), none, none]) hG hl kX12_canAll rfl (Nat.le_of_ble_eq_true rfl) rfl rfl rfl rfl rfl (fun X eG el hX => ?_)
  subst eG; subst el
  unfold f_X12_canAll at h
  refine x_iconst hX dX12_canAll_0 ?_
  refine x_istoren (ls' := [some (vr (xG X) 139), some (vi x1), some (vi 1), none]) hX dX12_canAll_1 rfl rfl rfl ?_
  refine x_iconst hX dX12_canAll_2 ?_
  refine x_istoren (ls' := [some (vr (xG X) 139), some (vi x1), some (vi 1), some (vi 0)]) hX dX12_canAll_3 rfl rfl rfl ?_
  refine x_weak (ls' := [some (vr (xG X) 139), some (vi x1), some (vi 1), some (vi 0)]) [true, true, true, true] rfl ?_
  refine lp_use (x := (1, 0)) (P := fun x => V X 0 0 (Qn X (some (vi r)) M) 4 [some (vr (xG X) 139), some (vi x1), some (vi x.1), some (vi x.2)] [] M) (PE := fun z_6 => V X 0 0 (Qn X (some (vi r)) M) 46 [none, none, some (vi z_6), none] [] M) (PR := fun q => (Qn X (some (vi r)) M) = Qn X (some (vi q)) M) h (fun x o hh hP hE hR => ts_X12_canAll_4 hX hs x1 M x.1 x.2 o hh hP hE hR) (fun z_6 h => ?_) (fun q h => ?_)
  · show V X 0 0 (Qn X (some (vi r)) M) 46 [none, none, some (vi z_6), none] [] M
    refine x_iloadn hX dX12_canAll_46 rfl ?_
    obtain ⟨b_7, h⟩ := gz_of h
    cases h
    exact x_zret hX dX12_canAll_47 b_7 rfl
  · cases h; rfl
set_option maxRecDepth 100000 in
set_option maxHeartbeats 4000000 in
theorem c_X12_routeOf {l : Launch} {G : Gx} (hG : GOK G) (hl : l.stackTraces = false) (hs : SOK G)  (x1 : Int) (x2 : Int) (M : Mem) (r : Int) (Mr : Mem) (h : f_X12_routeOf x1 x2 M = some (r, Mr)) : Cn l G mX12_routeOf 4 [vr G 139, vi x1, vi x2] M (some (vi r)) Mr := by
  refine Cn_of2 (ls := [some (vr G 139), some (vi x1), some (vi x2), none]) hG hl kX12_routeOf rfl (Nat.le_of_ble_eq_true rfl) rfl rfl rfl rfl rfl (fun X eG el hX => ?_)
  subst eG; subst el
  unfold f_X12_routeOf at h
  refine x_aloadn hX dX12_routeOf_0 rfl ?_
  refine x_iloadn hX dX12_routeOf_1 rfl ?_
  obtain ⟨M_2, er_1, h⟩ := cl1_of h
  refine x_callVv (t := 11) (As := [vi x1]) (rest := []) hX dX12_routeOf_2 (c_X12_laysAisles (gk hX) (gl hX) hs x1 M _ er_1) kX12_laysAisles vX12_laysAisles w_1979 (st139 hs) rfl rfl rfl rfl (Nat.le_of_ble_eq_true rfl) z0 ?_
  refine x_aloadn hX dX12_routeOf_5 rfl ?_
  refine x_getI hX dX12_routeOf_6 fl_X12_190 rfl (st139 hs) ?_
  refine x_if_ne (tgt := 14) hX dX12_routeOf_9 (by decide) rfl (fun hc => ?_) (fun hc => ?_)
  · replace h := (if_pos hc).symm.trans h
    refine x_iconst hX dX12_routeOf_12 ?_
    cases h
    exact x_iret hX dX12_routeOf_13 rfl
  · replace h := (if_neg hc).symm.trans h
    refine x_iconst hX dX12_routeOf_14 ?_
    refine x_aloadn hX dX12_routeOf_15 rfl ?_
    refine x_getRj (j := 140) hX dX12_routeOf_16 fl_X12_7 rfl (st139 hs) rfl ?_
    refine x_iconst hX dX12_routeOf_19 ?_
    refine x_iald hX dX12_routeOf_20 (st140 hs) inc_2_469 ixc_2 ?_
    refine x_imul hX dX12_routeOf_21 ?_
    refine x_aloadn hX dX12_routeOf_22 rfl ?_
    refine x_getRj (j := 146) hX dX12_routeOf_23 fl_X12_29 rfl (st139 hs) rfl ?_
    refine x_aloadn hX dX12_routeOf_26 rfl ?_
    refine x_getI hX dX12_routeOf_27 fl_X12_190 rfl (st139 hs) ?_
    refine x_iconst hX dX12_routeOf_30 ?_
    refine x_isub hX dX12_routeOf_31 ?_
    obtain ⟨b_3, h⟩ := gi_of h
    refine x_iald hX dX12_routeOf_32 (st146 hs) b_3 rfl ?_
    refine x_aloadn hX dX12_routeOf_33 rfl ?_
    refine x_iloadn hX dX12_routeOf_34 rfl ?_
    obtain ⟨r_4, er_4, h⟩ := cl1_of h
    refine x_callVi (t := 11) (As := [vi x1]) (rest := [vi (M_2 146 (ix ((M_2 139 8) - 1))), vi (2 * (M_2 140 2))]) hX dX12_routeOf_35 (c_X12_firstOf (gk hX) (gl hX) hs x1 M_2 _ er_4) kX12_firstOf vX12_firstOf w_1983 (st139 hs) rfl rfl rfl rfl (Nat.le_of_ble_eq_true rfl) z0 ?_
    refine x_isub hX dX12_routeOf_38 ?_
    refine x_imul hX dX12_routeOf_39 ?_
    obtain ⟨x3_6, ex3_6, h⟩ := bnd_of h
    refine x_istoren (ls' := [some (vr (xG X) 139), some (vi x1), some (vi x2), some (vi x3_6)]) hX dX12_routeOf_40 rfl ex3_6 rfl ?_
    refine x_iloadn hX dX12_routeOf_41 rfl ?_
    by_cases hs0 : w32 x2 = 0
    · replace h := (if_pos hs0).symm.trans h
      refine x_tsI (tgt := 68) hX dX12_routeOf_42 hs0 (by decide) (by decide) rfl (by decide) ?_
      refine x_iloadn hX dX12_routeOf_68 rfl ?_
      refine x_aloadn hX dX12_routeOf_69 rfl ?_
      obtain ⟨r_7, er_7, h⟩ := cl1_of h
      refine x_callVi (t := 11) (As := []) (rest := [vi x3_6]) hX dX12_routeOf_70 (c_X12_returnOf (gk hX) (gl hX) hs M_2 _ er_7) kX12_returnOf vX12_returnOf w_1995 (st139 hs) rfl rfl rfl rfl (Nat.le_of_ble_eq_true rfl) z0 ?_
      refine x_iadd hX dX12_routeOf_73 ?_
      cases h
      exact x_iret hX dX12_routeOf_74 rfl
    · replace h := (if_neg hs0).symm.trans h
      by_cases hs1 : w32 x2 = 1
      · replace h := (if_pos hs1).symm.trans h
        refine x_tsI (tgt := 75) hX dX12_routeOf_42 hs1 (by decide) (by decide) rfl (by decide) ?_
        refine x_iloadn hX dX12_routeOf_75 rfl ?_
        refine x_aloadn hX dX12_routeOf_76 rfl ?_
        obtain ⟨r_9, er_9, h⟩ := cl1_of h
        refine x_callVi (t := 11) (As := []) (rest := [vi x3_6]) hX dX12_routeOf_77 (c_X12_shapeOf (gk hX) (gl hX) hs M_2 _ er_9) kX12_shapeOf vX12_shapeOf w_1999 (st139 hs) rfl rfl rfl rfl (Nat.le_of_ble_eq_true rfl) z0 ?_
        refine x_iadd hX dX12_routeOf_80 ?_
        cases h
        exact x_iret hX dX12_routeOf_81 rfl
      · replace h := (if_neg hs1).symm.trans h
        by_cases hs2 : w32 x2 = 2
        · replace h := (if_pos hs2).symm.trans h
          refine x_tsI (tgt := 82) hX dX12_routeOf_42 hs2 (by decide) (by decide) rfl (by decide) ?_
          refine x_iloadn hX dX12_routeOf_82 rfl ?_
          refine x_aloadn hX dX12_routeOf_83 rfl ?_
          obtain ⟨r_11, M_12, er_11, h⟩ := cl2_of h
          refine x_callVi (t := 11) (As := []) (rest := [vi x3_6]) hX dX12_routeOf_84 (c_X12_gapOf (gk hX) (gl hX) hs M_2 _ _ er_11) kX12_gapOf vX12_gapOf w_2007 (st139 hs) rfl rfl rfl rfl (Nat.le_of_ble_eq_true rfl) z0 ?_
          refine x_iadd hX dX12_routeOf_87 ?_
          cases h
          exact x_iret hX dX12_routeOf_88 rfl
        · replace h := (if_neg hs2).symm.trans h
          refine x_tsO (tgt := 89) hX dX12_routeOf_42 (by omega) (by decide) ?_
          refine x_iloadn hX dX12_routeOf_89 rfl ?_
          refine x_aloadn hX dX12_routeOf_90 rfl ?_
          refine x_aloadn hX dX12_routeOf_91 rfl ?_
          obtain ⟨r_13, er_13, h⟩ := cl1_of h
          refine x_callVi (t := 11) (As := []) (rest := [vr (xG X) 139, vi x3_6]) hX dX12_routeOf_92 (c_X12_bestChoice (gk hX) (gl hX) hs M_2 _ er_13) kX12_bestChoice vX12_bestChoice w_2015 (st139 hs) rfl rfl rfl rfl (Nat.le_of_ble_eq_true rfl) z0 ?_
          obtain ⟨r_15, er_15, h⟩ := cl1_of h
          refine x_callVi (t := 11) (As := [vi r_13]) (rest := [vi x3_6]) hX dX12_routeOf_95 (c_X12_combinedBy (gk hX) (gl hX) hs r_13 M_2 _ er_15) kX12_combinedBy vX12_combinedBy w_2019 (st139 hs) rfl rfl rfl rfl (Nat.le_of_ble_eq_true rfl) z0 ?_
          refine x_iadd hX dX12_routeOf_98 ?_
          cases h
          exact x_iret hX dX12_routeOf_99 rfl
set_option maxRecDepth 100000 in
set_option maxHeartbeats 4000000 in
theorem c_X12_goes {l : Launch} {G : Gx} (hG : GOK G) (hl : l.stackTraces = false) (hs : SOK G)  (x1 : Int) (x2 : Int) (M : Mem) (Mr : Mem) (h : f_X12_goes x1 x2 M = some Mr) : Cn l G mX12_goes 4 [vr G 139, vi x1, vi x2] M none Mr := by
  refine Cn_of2 (ls := [some (vr G 139), some (vi x1), some (vi x2)]) hG hl kX12_goes rfl (Nat.le_of_ble_eq_true rfl) rfl rfl rfl rfl rfl (fun X eG el hX => ?_)
  subst eG; subst el
  unfold f_X12_goes at h
  refine x_iloadn hX dX12_goes_0 rfl ?_
  refine x_if_eq (tgt := 19) hX dX12_goes_1 (by decide) rfl (fun hc => ?_) (fun hc => ?_)
  · replace h := (if_pos hc).symm.trans h
    refine x_aloadn hX dX12_goes_19 rfl ?_
    refine x_iloadn hX dX12_goes_20 rfl ?_
    refine x_aloadn hX dX12_goes_21 rfl ?_
    refine x_getRj (j := 140) hX dX12_goes_22 fl_X12_7 rfl (st139 hs) rfl ?_
    refine x_iconst hX dX12_goes_25 ?_
    refine x_iald hX dX12_goes_26 (st140 hs) inc_1_469 ixc_1 ?_
    refine x_iconst hX dX12_goes_27 ?_
    obtain ⟨M_2, er_1, h⟩ := cl1_of h
    refine x_callVv (t := 11) (As := [vi x1, vi (M 140 1), vi 1]) (rest := []) hX dX12_goes_28 (c_X12_goesDown (gk hX) (gl hX) hs x1 (M 140 1) 1 M _ er_1) kX12_goesDown vX12_goesDown w_2091 (st139 hs) rfl rfl rfl rfl (Nat.le_of_ble_eq_true rfl) z0 ?_
    cases h
    exact x_vret hX dX12_goes_31 rfl
  · replace h := (if_neg hc).symm.trans h
    refine x_aloadn hX dX12_goes_4 rfl ?_
    refine x_iloadn hX dX12_goes_5 rfl ?_
    refine x_iconst hX dX12_goes_6 ?_
    refine x_aloadn hX dX12_goes_7 rfl ?_
    refine x_getRj (j := 140) hX dX12_goes_8 fl_X12_7 rfl (st139 hs) rfl ?_
    refine x_iconst hX dX12_goes_11 ?_
    refine x_iald hX dX12_goes_12 (st140 hs) inc_1_469 ixc_1 ?_
    obtain ⟨M_4, er_3, h⟩ := cl1_of h
    refine x_callVv (t := 11) (As := [vi x1, vi 1, vi (M 140 1)]) (rest := []) hX dX12_goes_13 (c_X12_goesUp (gk hX) (gl hX) hs x1 1 (M 140 1) M _ er_3) kX12_goesUp vX12_goesUp w_2083 (st139 hs) rfl rfl rfl rfl (Nat.le_of_ble_eq_true rfl) z0 ?_
    refine x_goto (tgt := 31) hX dX12_goes_16 (by decide) ?_
    cases h
    exact x_vret hX dX12_goes_31 rfl
set_option maxRecDepth 100000 in
set_option maxHeartbeats 4000000 in
theorem ts_X12_sortsBy_22 {X : Cxt} (hX : Gd X RX12 cX12_sortsBy 6 (none) 4) (hs : SOK (xG X))  (x1 : Int) (x2 : Int) (x3 : Int) (M : Mem) (x4 : Int) (x5 : Int) {Q : State → Prop} (o : (Int × Int) ⊕ ((Int) ⊕ (Mem))) (h : s_X12_sortsBy_22 x1 x2 x3 M x4 x5 = some o) (hP : ∀ y, o = .inl y → V X 0 0 Q 22 [some (vr (xG X) 139), some (vi x1), some (vi x2), some (vi x3), some (vi y.1), some (vi y.2)] [] M) (hE : ∀ z, o = .inr (.inl z) → V X 0 0 Q 51 [some (vr (xG X) 139), some (vi x1), some (vi x2), none, some (vi z), none] [] M) (hR : ∀ q, o = .inr (.inr q) → Q = Qn X none q) : V X 0 0 Q 22 [some (vr (xG X) 139), some (vi x1), some (vi x2), some (vi x3), some (vi x4), some (vi x5)] [] M := by
  unfold s_X12_sortsBy_22 at h
  refine x_iload hX dX12_sortsBy_22 rfl ?_
  refine x_aloadn hX dX12_sortsBy_24 rfl ?_
  obtain ⟨r_2, er_2, h⟩ := cl1_of h
  refine x_callVi (t := 11) (As := []) (rest := [vi x5]) hX dX12_sortsBy_25 (c_X12_zones (gk hX) (gl hX) hs M _ er_2) kX12_zones vX12_zones w_1971 (st139 hs) rfl rfl rfl rfl (Nat.le_of_ble_eq_true rfl) z0 ?_
  refine x_icmp_ge (tgt := 51) hX dX12_sortsBy_28 (by decide) rfl rfl (fun hc => ?_) (fun hc => ?_)
  · replace h := (if_pos hc).symm.trans h
    refine x_iload hX dX12_sortsBy_31 rfl ?_
    refine x_aloadn hX dX12_sortsBy_33 rfl ?_
    refine x_getRj (j := 148) hX dX12_sortsBy_34 fl_X12_35 rfl (st139 hs) rfl ?_
    refine x_iloadn hX dX12_sortsBy_37 rfl ?_
    refine x_iload hX dX12_sortsBy_38 rfl ?_
    refine x_iadd hX dX12_sortsBy_40 ?_
    obtain ⟨b_4, h⟩ := gi_of h
    refine x_iald hX dX12_sortsBy_41 (st148 hs) b_4 rfl ?_
    refine x_iadd hX dX12_sortsBy_42 ?_
    obtain ⟨x4_5, ex4_5, h⟩ := bnd_of h
    refine x_istore (ls' := [some (vr (xG X) 139), some (vi x1), some (vi x2), some (vi x3), some (vi x4_5), some (vi x5)]) hX dX12_sortsBy_43 rfl ex4_5 rfl ?_
    obtain ⟨x5_6, ex5_6, h⟩ := bnd_of h
    refine x_iinc (ls' := [some (vr (xG X) 139), some (vi x1), some (vi x2), some (vi x3), some (vi x4_5), some (vi x5_6)]) hX dX12_sortsBy_45 rfl rfl ex5_6 rfl ?_
    refine x_goto (tgt := 22) hX dX12_sortsBy_48 (by decide) ?_
    exact x_weak [true, true, true, true, true, true] rfl (hP (x4_5, x5_6) (Option.some.inj h).symm)
  · replace h := (if_neg hc).symm.trans h
    exact x_weak [true, true, true, false, true, false] rfl (hE x4 (Option.some.inj h).symm)
set_option maxRecDepth 100000 in
set_option maxHeartbeats 4000000 in
theorem tj_X12_sortsBy_79_2 {X : Cxt} (hX : Gd X RX12 cX12_sortsBy 6 (none) 4) (hs : SOK (xG X))   (x1 : Int) (x2 : Int) (y1 : Int) (y2 : Int) (M : Mem) {Q : State → Prop} (o : (Int × Mem) ⊕ ((Mem) ⊕ (Mem))) (h : j_X12_sortsBy_79_2 x1 x2 y1 y2 M = some o) (hP : ∀ y, o = .inl y → V X 0 0 Q 2 [some (vr (xG X) 139), some (vi x1), some (vi y.1), none, none, none] [] y.2) (hE : ∀ z, o = .inr (.inl z) → V X 0 0 Q 86 [some (vr (xG X) 139), none, none, none, none, none] [] z) (hR : ∀ q, o = .inr (.inr q) → Q = Qn X none q) : V X 0 0 Q 79 [some (vr (xG X) 139), some (vi x1), some (vi x2), none, none, none] [vi y2, vi y1, vr (xG X) 152] M := by
  unfold j_X12_sortsBy_79_2 at h
  obtain ⟨b_12, h⟩ := gi_of h
  obtain ⟨M_11, eM_11, h⟩ := bnd_of h
  refine x_iast hX dX12_sortsBy_79 (st152 hs) b_12 rfl (x_meq eM_11 ?_)
  obtain ⟨x2_13, ex2_13, h⟩ := bnd_of h
  refine x_iinc (ls' := [some (vr (xG X) 139), some (vi x1), some (vi x2_13), none, none, none]) hX dX12_sortsBy_80 rfl rfl ex2_13 rfl ?_
  refine x_goto (tgt := 2) hX dX12_sortsBy_83 (by decide) ?_
  exact x_weak [true, true, true, false, false, false] rfl (hP (x2_13, M_11) (Option.some.inj h).symm)
set_option maxRecDepth 100000 in
set_option maxHeartbeats 4000000 in
theorem ts_X12_sortsBy_2 {X : Cxt} (hX : Gd X RX12 cX12_sortsBy 6 (none) 4) (hs : SOK (xG X))  (x1 : Int) (x2 : Int) (M : Mem) {Q : State → Prop} (o : (Int × Mem) ⊕ ((Mem) ⊕ (Mem))) (h : s_X12_sortsBy_2 x1 x2 M = some o) (hP : ∀ y, o = .inl y → V X 0 0 Q 2 [some (vr (xG X) 139), some (vi x1), some (vi y.1), none, none, none] [] y.2) (hE : ∀ z, o = .inr (.inl z) → V X 0 0 Q 86 [some (vr (xG X) 139), none, none, none, none, none] [] z) (hR : ∀ q, o = .inr (.inr q) → Q = Qn X none q) : V X 0 0 Q 2 [some (vr (xG X) 139), some (vi x1), some (vi x2), none, none, none] [] M := by
  unfold s_X12_sortsBy_2 at h
  refine x_iloadn hX dX12_sortsBy_2 rfl ?_
  refine x_aloadn hX dX12_sortsBy_3 rfl ?_
  refine x_getRj (j := 140) hX dX12_sortsBy_4 fl_X12_7 rfl (st139 hs) rfl ?_
  refine x_iconst hX dX12_sortsBy_7 ?_
  refine x_iald hX dX12_sortsBy_8 (st140 hs) inc_5_469 ixc_5 ?_
  refine x_icmp_ge (tgt := 86) hX dX12_sortsBy_9 (by decide) rfl rfl (fun hc => ?_) (fun hc => ?_)
  · replace h := (if_pos hc).symm.trans h
    refine x_iconst hX dX12_sortsBy_12 ?_
    refine x_iloadn hX dX12_sortsBy_13 rfl ?_
    refine x_imul hX dX12_sortsBy_14 ?_
    obtain ⟨x3_1, ex3_1, h⟩ := bnd_of h
    refine x_istoren (ls' := [some (vr (xG X) 139), some (vi x1), some (vi x2), some (vi x3_1), none, none]) hX dX12_sortsBy_15 rfl ex3_1 rfl ?_
    refine x_iconst hX dX12_sortsBy_16 ?_
    refine x_istore (ls' := [some (vr (xG X) 139), some (vi x1), some (vi x2), some (vi x3_1), some (vi 0), none]) hX dX12_sortsBy_17 rfl rfl rfl ?_
    refine x_iconst hX dX12_sortsBy_19 ?_
    refine x_istore (ls' := [some (vr (xG X) 139), some (vi x1), some (vi x2), some (vi x3_1), some (vi 0), some (vi 0)]) hX dX12_sortsBy_20 rfl rfl rfl ?_
    refine x_weak (ls' := [some (vr (xG X) 139), some (vi x1), some (vi x2), some (vi x3_1), some (vi 0), some (vi 0)]) [true, true, true, true, true, true] rfl ?_
    refine lp_use (x := (0, 0)) (P := fun x => V X 0 0 Q 22 [some (vr (xG X) 139), some (vi x1), some (vi x2), some (vi x3_1), some (vi x.1), some (vi x.2)] [] M) (PE := fun z_7 => V X 0 0 Q 51 [some (vr (xG X) 139), some (vi x1), some (vi x2), none, some (vi z_7), none] [] M) (PR := fun q => Q = Qn X none q) h (fun x o hh hP hE hR => ts_X12_sortsBy_22 hX hs x1 x2 x3_1 M x.1 x.2 o hh hP hE hR) (fun z_7 h => ?_) (fun q h => ?_)
    · show V X 0 0 Q 51 [some (vr (xG X) 139), some (vi x1), some (vi x2), none, some (vi z_7), none] [] M
      refine x_aloadn hX dX12_sortsBy_51 rfl ?_
      refine x_getRj (j := 152) hX dX12_sortsBy_52 fl_X12_47 rfl (st139 hs) rfl ?_
      refine x_iloadn hX dX12_sortsBy_55 rfl ?_
      refine x_iloadn hX dX12_sortsBy_56 rfl ?_
      refine x_if_ne (tgt := 77) hX dX12_sortsBy_57 (by decide) rfl (fun hc => ?_) (fun hc => ?_)
      · replace h := (if_pos hc).symm.trans h
        refine x_aloadn hX dX12_sortsBy_60 rfl ?_
        refine x_aloadn hX dX12_sortsBy_61 rfl ?_
        refine x_getRj (j := 140) hX dX12_sortsBy_62 fl_X12_7 rfl (st139 hs) rfl ?_
        refine x_sipush hX dX12_sortsBy_65 sp_461 ?_
        refine x_iloadn hX dX12_sortsBy_68 rfl ?_
        refine x_iadd hX dX12_sortsBy_69 ?_
        obtain ⟨b_8, h⟩ := gi_of h
        refine x_iald hX dX12_sortsBy_70 (st140 hs) b_8 rfl ?_
        obtain ⟨r_9, er_9, h⟩ := cl1_of h
        refine x_callVi (t := 11) (As := [vi (M 140 (ix (461 + x2)))]) (rest := [vi x2, vr (xG X) 152]) hX dX12_sortsBy_71 (c_X12_earliestOf (gk hX) (gl hX) hs (M 140 (ix (461 + x2))) M _ er_9) kX12_earliestOf vX12_earliestOf w_2197 (st139 hs) rfl rfl rfl rfl (Nat.le_of_ble_eq_true rfl) z0 ?_
        refine x_goto (tgt := 79) hX dX12_sortsBy_74 (by decide) ?_
        exact x_weak [true, true, true, false, false, false] rfl (tj_X12_sortsBy_79_2 hX hs x1 x2 x2 r_9 M o h hP hE hR)
      · replace h := (if_neg hc).symm.trans h
        refine x_iload hX dX12_sortsBy_77 rfl ?_
        exact x_weak [true, true, true, false, false, false] rfl (tj_X12_sortsBy_79_2 hX hs x1 x2 x2 z_7 M o h hP hE hR)
    · exact hR q (Option.some.inj h).symm
  · replace h := (if_neg hc).symm.trans h
    exact x_weak [true, false, false, false, false, false] rfl (hE M (Option.some.inj h).symm)
set_option maxRecDepth 100000 in
set_option maxHeartbeats 4000000 in
theorem ts_X12_sortsBy_108 {X : Cxt} (hX : Gd X RX12 cX12_sortsBy 6 (none) 4) (hs : SOK (xG X))  (x2 : Int) (x3 : Int) (x4 : Int) (M : Mem) {Q : State → Prop} (o : (Int × Mem) ⊕ ((Int × Mem) ⊕ (Mem))) (h : s_X12_sortsBy_108 x2 x3 x4 M = some o) (hP : ∀ y, o = .inl y → V X 0 0 Q 108 [some (vr (xG X) 139), none, some (vi x2), some (vi x3), some (vi y.1), none] [] y.2) (hE : ∀ z, o = .inr (.inl z) → V X 0 0 Q 158 [some (vr (xG X) 139), none, some (vi x2), some (vi x3), some (vi z.1), none] [] z.2) (hR : ∀ q, o = .inr (.inr q) → Q = Qn X none q) : V X 0 0 Q 108 [some (vr (xG X) 139), none, some (vi x2), some (vi x3), some (vi x4), none] [] M := by
  unfold s_X12_sortsBy_108 at h
  refine x_iload hX dX12_sortsBy_108 rfl ?_
  refine x_if_le (tgt := 158) hX dX12_sortsBy_110 (by decide) rfl (fun hc => ?_) (fun hc => ?_)
  · replace h := (if_pos hc).symm.trans h
    refine x_aloadn hX dX12_sortsBy_113 rfl ?_
    refine x_getRj (j := 152) hX dX12_sortsBy_114 fl_X12_47 rfl (st139 hs) rfl ?_
    refine x_aloadn hX dX12_sortsBy_117 rfl ?_
    refine x_getRj (j := 149) hX dX12_sortsBy_118 fl_X12_38 rfl (st139 hs) rfl ?_
    refine x_iload hX dX12_sortsBy_121 rfl ?_
    refine x_iconst hX dX12_sortsBy_123 ?_
    refine x_isub hX dX12_sortsBy_124 ?_
    obtain ⟨b_17, h⟩ := gi_of h
    refine x_iald hX dX12_sortsBy_125 (st149 hs) b_17 rfl ?_
    obtain ⟨b_18, h⟩ := gi_of h
    refine x_iald hX dX12_sortsBy_126 (st152 hs) b_18 rfl ?_
    refine x_aloadn hX dX12_sortsBy_127 rfl ?_
    refine x_getRj (j := 152) hX dX12_sortsBy_128 fl_X12_47 rfl (st139 hs) rfl ?_
    refine x_iloadn hX dX12_sortsBy_131 rfl ?_
    obtain ⟨b_19, h⟩ := gi_of h
    refine x_iald hX dX12_sortsBy_132 (st152 hs) b_19 rfl ?_
    refine x_icmp_le (tgt := 158) hX dX12_sortsBy_133 (by decide) rfl rfl (fun hc => ?_) (fun hc => ?_)
    · replace h := (if_pos hc).symm.trans h
      refine x_aloadn hX dX12_sortsBy_136 rfl ?_
      refine x_getRj (j := 149) hX dX12_sortsBy_137 fl_X12_38 rfl (st139 hs) rfl ?_
      refine x_iload hX dX12_sortsBy_140 rfl ?_
      refine x_aloadn hX dX12_sortsBy_142 rfl ?_
      refine x_getRj (j := 149) hX dX12_sortsBy_143 fl_X12_38 rfl (st139 hs) rfl ?_
      refine x_iload hX dX12_sortsBy_146 rfl ?_
      refine x_iconst hX dX12_sortsBy_148 ?_
      refine x_isub hX dX12_sortsBy_149 ?_
      obtain ⟨b_20, h⟩ := gi_of h
      refine x_iald hX dX12_sortsBy_150 (st149 hs) b_20 rfl ?_
      obtain ⟨b_22, h⟩ := gi_of h
      obtain ⟨M_21, eM_21, h⟩ := bnd_of h
      refine x_iast hX dX12_sortsBy_151 (st149 hs) b_22 rfl (x_meq eM_21 ?_)
      obtain ⟨x4_23, ex4_23, h⟩ := bnd_of h
      refine x_iinc (ls' := [some (vr (xG X) 139), none, some (vi x2), some (vi x3), some (vi x4_23), none]) hX dX12_sortsBy_152 rfl rfl ex4_23 rfl ?_
      refine x_goto (tgt := 108) hX dX12_sortsBy_155 (by decide) ?_
      exact x_weak [true, false, true, true, true, false] rfl (hP (x4_23, M_21) (Option.some.inj h).symm)
    · replace h := (if_neg hc).symm.trans h
      exact x_weak [true, false, true, true, true, false] rfl (hE (x4, M) (Option.some.inj h).symm)
  · replace h := (if_neg hc).symm.trans h
    exact x_weak [true, false, true, true, true, false] rfl (hE (x4, M) (Option.some.inj h).symm)
set_option maxRecDepth 100000 in
set_option maxHeartbeats 4000000 in
theorem tj_X12_sortsBy_158_88 {X : Cxt} (hX : Gd X RX12 cX12_sortsBy 6 (none) 4) (hs : SOK (xG X))   (x2 : Int) (x3 : Int) (x4 : Int) (M : Mem) {Q : State → Prop} (o : (Int × Mem) ⊕ ((Mem) ⊕ (Mem))) (h : j_X12_sortsBy_158_88 x2 x3 x4 M = some o) (hP : ∀ y, o = .inl y → V X 0 0 Q 88 [some (vr (xG X) 139), none, some (vi y.1), none, none, none] [] y.2) (hE : ∀ z, o = .inr (.inl z) → V X 0 0 Q 172 [none, none, none, none, none, none] [] z) (hR : ∀ q, o = .inr (.inr q) → Q = Qn X none q) : V X 0 0 Q 158 [some (vr (xG X) 139), none, some (vi x2), some (vi x3), some (vi x4), none] [] M := by
  unfold j_X12_sortsBy_158_88 at h
  refine x_aloadn hX dX12_sortsBy_158 rfl ?_
  refine x_getRj (j := 149) hX dX12_sortsBy_159 fl_X12_38 rfl (st139 hs) rfl ?_
  refine x_iload hX dX12_sortsBy_162 rfl ?_
  refine x_iloadn hX dX12_sortsBy_164 rfl ?_
  obtain ⟨b_26, h⟩ := gi_of h
  obtain ⟨M_25, eM_25, h⟩ := bnd_of h
  refine x_iast hX dX12_sortsBy_165 (st149 hs) b_26 rfl (x_meq eM_25 ?_)
  obtain ⟨x2_27, ex2_27, h⟩ := bnd_of h
  refine x_iinc (ls' := [some (vr (xG X) 139), none, some (vi x2_27), some (vi x3), some (vi x4), none]) hX dX12_sortsBy_166 rfl rfl ex2_27 rfl ?_
  refine x_goto (tgt := 88) hX dX12_sortsBy_169 (by decide) ?_
  exact x_weak [true, false, true, false, false, false] rfl (hP (x2_27, M_25) (Option.some.inj h).symm)
set_option maxRecDepth 100000 in
set_option maxHeartbeats 4000000 in
theorem ts_X12_sortsBy_88 {X : Cxt} (hX : Gd X RX12 cX12_sortsBy 6 (none) 4) (hs : SOK (xG X))  (x2 : Int) (M : Mem) {Q : State → Prop} (o : (Int × Mem) ⊕ ((Mem) ⊕ (Mem))) (h : s_X12_sortsBy_88 x2 M = some o) (hP : ∀ y, o = .inl y → V X 0 0 Q 88 [some (vr (xG X) 139), none, some (vi y.1), none, none, none] [] y.2) (hE : ∀ z, o = .inr (.inl z) → V X 0 0 Q 172 [none, none, none, none, none, none] [] z) (hR : ∀ q, o = .inr (.inr q) → Q = Qn X none q) : V X 0 0 Q 88 [some (vr (xG X) 139), none, some (vi x2), none, none, none] [] M := by
  unfold s_X12_sortsBy_88 at h
  refine x_iloadn hX dX12_sortsBy_88 rfl ?_
  refine x_aloadn hX dX12_sortsBy_89 rfl ?_
  refine x_getRj (j := 140) hX dX12_sortsBy_90 fl_X12_7 rfl (st139 hs) rfl ?_
  refine x_iconst hX dX12_sortsBy_93 ?_
  refine x_iald hX dX12_sortsBy_94 (st140 hs) inc_5_469 ixc_5 ?_
  refine x_icmp_ge (tgt := 172) hX dX12_sortsBy_95 (by decide) rfl rfl (fun hc => ?_) (fun hc => ?_)
  · replace h := (if_pos hc).symm.trans h
    refine x_aloadn hX dX12_sortsBy_98 rfl ?_
    refine x_getRj (j := 149) hX dX12_sortsBy_99 fl_X12_38 rfl (st139 hs) rfl ?_
    refine x_iloadn hX dX12_sortsBy_102 rfl ?_
    obtain ⟨b_15, h⟩ := gi_of h
    refine x_iald hX dX12_sortsBy_103 (st149 hs) b_15 rfl ?_
    obtain ⟨x3_16, ex3_16, h⟩ := bnd_of h
    refine x_istoren (ls' := [some (vr (xG X) 139), none, some (vi x2), some (vi x3_16), none, none]) hX dX12_sortsBy_104 rfl ex3_16 rfl ?_
    refine x_iloadn hX dX12_sortsBy_105 rfl ?_
    refine x_istore (ls' := [some (vr (xG X) 139), none, some (vi x2), some (vi x3_16), some (vi x2), none]) hX dX12_sortsBy_106 rfl rfl rfl ?_
    refine x_weak (ls' := [some (vr (xG X) 139), none, some (vi x2), some (vi x3_16), some (vi x2), none]) [true, false, true, true, true, false] rfl ?_
    refine lp_use (x := (x2, M)) (P := fun x => V X 0 0 Q 108 [some (vr (xG X) 139), none, some (vi x2), some (vi x3_16), some (vi x.1), none] [] x.2) (PE := fun z_24 => V X 0 0 Q 158 [some (vr (xG X) 139), none, some (vi x2), some (vi x3_16), some (vi z_24.1), none] [] z_24.2) (PR := fun q => Q = Qn X none q) h (fun x o hh hP hE hR => ts_X12_sortsBy_108 hX hs x2 x3_16 x.1 x.2 o hh hP hE hR) (fun z_24 h => ?_) (fun q h => ?_)
    · show V X 0 0 Q 158 [some (vr (xG X) 139), none, some (vi x2), some (vi x3_16), some (vi z_24.1), none] [] z_24.2
      exact x_weak [true, false, true, true, true, false] rfl (tj_X12_sortsBy_158_88 hX hs x2 x3_16 z_24.1 z_24.2 o h hP hE hR)
    · exact hR q (Option.some.inj h).symm
  · replace h := (if_neg hc).symm.trans h
    exact x_weak [false, false, false, false, false, false] rfl (hE M (Option.some.inj h).symm)
set_option maxRecDepth 100000 in
set_option maxHeartbeats 4000000 in
theorem c_X12_sortsBy {l : Launch} {G : Gx} (hG : GOK G) (hl : l.stackTraces = false) (hs : SOK G)  (x1 : Int) (M : Mem) (Mr : Mem) (h : f_X12_sortsBy x1 M = some Mr) : Cn l G mX12_sortsBy 4 [vr G 139, vi x1] M none Mr := by
  refine Cn_of2 (ls := [some (vr G 139), some (vi x1), none, none, none, none]) hG hl kX12_sortsBy rfl (Nat.le_of_ble_eq_true rfl) rfl rfl rfl rfl rfl (fun X eG el hX => ?_)
  subst eG; subst el
  unfold f_X12_sortsBy at h
  refine x_iconst hX dX12_sortsBy_0 ?_
  refine x_istoren (ls' := [some (vr (xG X) 139), some (vi x1), some (vi 0), none, none, none]) hX dX12_sortsBy_1 rfl rfl rfl ?_
  refine x_weak (ls' := [some (vr (xG X) 139), some (vi x1), some (vi 0), none, none, none]) [true, true, true, false, false, false] rfl ?_
  refine lp_use (x := (0, M)) (P := fun x => V X 0 0 (Qn X none Mr) 2 [some (vr (xG X) 139), some (vi x1), some (vi x.1), none, none, none] [] x.2) (PE := fun z_14 => V X 0 0 (Qn X none Mr) 86 [some (vr (xG X) 139), none, none, none, none, none] [] z_14) (PR := fun q => (Qn X none Mr) = Qn X none q) h (fun x o hh hP hE hR => ts_X12_sortsBy_2 hX hs x1 x.1 x.2 o hh hP hE hR) (fun z_14 h => ?_) (fun q h => ?_)
  · show V X 0 0 (Qn X none Mr) 86 [some (vr (xG X) 139), none, none, none, none, none] [] z_14
    refine x_iconst hX dX12_sortsBy_86 ?_
    refine x_istoren (ls' := [some (vr (xG X) 139), none, some (vi 1), none, none, none]) hX dX12_sortsBy_87 rfl rfl rfl ?_
    refine x_weak (ls' := [some (vr (xG X) 139), none, some (vi 1), none, none, none]) [true, false, true, false, false, false] rfl ?_
    refine lp_use (x := (1, z_14)) (P := fun x => V X 0 0 (Qn X none Mr) 88 [some (vr (xG X) 139), none, some (vi x.1), none, none, none] [] x.2) (PE := fun z_28 => V X 0 0 (Qn X none Mr) 172 [none, none, none, none, none, none] [] z_28) (PR := fun q => (Qn X none Mr) = Qn X none q) h (fun x o hh hP hE hR => ts_X12_sortsBy_88 hX hs x.1 x.2 o hh hP hE hR) (fun z_28 h => ?_) (fun q h => ?_)
    · show V X 0 0 (Qn X none Mr) 172 [none, none, none, none, none, none] [] z_28
      cases h
      exact x_vret hX dX12_sortsBy_172 rfl
    · cases h; rfl
  · cases h; rfl
set_option maxRecDepth 100000 in
set_option maxHeartbeats 4000000 in
theorem tj_X12_seeksSequence_40_13 {X : Cxt} (hX : Gd X RX12 cX12_seeksSequence 3 (none) 4) (hs : SOK (xG X))   (x1 : Int) (M : Mem) {Q : State → Prop} (o : (Int × Mem) ⊕ ((Mem) ⊕ (Mem))) (h : j_X12_seeksSequence_40_13 x1 M = some o) (hP : ∀ y, o = .inl y → V X 0 0 Q 13 [some (vr (xG X) 139), some (vi y.1), none] [] y.2) (hE : ∀ z, o = .inr (.inl z) → V X 0 0 Q 43 [some (vr (xG X) 139), none, none] [] z) (hR : ∀ q, o = .inr (.inr q) → Q = Qn X none q) : V X 0 0 Q 40 [some (vr (xG X) 139), some (vi x1), none] [] M := by
  unfold j_X12_seeksSequence_40_13 at h
  refine x_goto (tgt := 13) hX dX12_seeksSequence_40 (by decide) ?_
  exact x_weak [true, true, false] rfl (hP (x1, M) (Option.some.inj h).symm)
set_option maxRecDepth 100000 in
set_option maxHeartbeats 4000000 in
theorem ts_X12_seeksSequence_13 {X : Cxt} (hX : Gd X RX12 cX12_seeksSequence 3 (none) 4) (hs : SOK (xG X))  (x1 : Int) (M : Mem) {Q : State → Prop} (o : (Int × Mem) ⊕ ((Mem) ⊕ (Mem))) (h : s_X12_seeksSequence_13 x1 M = some o) (hP : ∀ y, o = .inl y → V X 0 0 Q 13 [some (vr (xG X) 139), some (vi y.1), none] [] y.2) (hE : ∀ z, o = .inr (.inl z) → V X 0 0 Q 43 [some (vr (xG X) 139), none, none] [] z) (hR : ∀ q, o = .inr (.inr q) → Q = Qn X none q) : V X 0 0 Q 13 [some (vr (xG X) 139), some (vi x1), none] [] M := by
  unfold s_X12_seeksSequence_13 at h
  refine x_aloadn hX dX12_seeksSequence_13 rfl ?_
  obtain ⟨r_7, M_8, er_7, h⟩ := cl2_of h
  refine x_callVi (t := 11) (As := []) (rest := []) hX dX12_seeksSequence_14 (c_X12_goesOn (gk hX) (gl hX) hs M _ _ er_7) kX12_goesOn vX12_goesOn w_2209 (st139 hs) rfl rfl rfl rfl (Nat.le_of_ble_eq_true rfl) z0 ?_
  refine x_if_eq (tgt := 43) hX dX12_seeksSequence_17 (by decide) rfl (fun hc => ?_) (fun hc => ?_)
  · replace h := (if_pos hc).symm.trans h
    exact x_weak [true, false, false] rfl (hE M_8 (Option.some.inj h).symm)
  · replace h := (if_neg hc).symm.trans h
    refine x_aloadn hX dX12_seeksSequence_20 rfl ?_
    obtain ⟨M_10, er_9, h⟩ := cl1_of h
    refine x_callVv (t := 11) (As := []) (rest := []) hX dX12_seeksSequence_21 (c_X12_laysTimes (gk hX) (gl hX) hs M_8 _ er_9) kX12_laysTimes vX12_laysTimes w_2127 (st139 hs) rfl rfl rfl rfl (Nat.le_of_ble_eq_true rfl) z0 ?_
    refine x_aloadn hX dX12_seeksSequence_24 rfl ?_
    obtain ⟨r_11, er_11, h⟩ := cl1_of h
    refine x_callVi (t := 11) (As := []) (rest := []) hX dX12_seeksSequence_25 (c_X12_tardiness (gk hX) (gl hX) hs M_10 _ er_11) kX12_tardiness vX12_tardiness w_2170 (st139 hs) rfl rfl rfl rfl (Nat.le_of_ble_eq_true rfl) z0 ?_
    refine x_istoren (ls' := [some (vr (xG X) 139), some (vi x1), some (vi r_11)]) hX dX12_seeksSequence_28 rfl rfl rfl ?_
    refine x_iloadn hX dX12_seeksSequence_29 rfl ?_
    refine x_iloadn hX dX12_seeksSequence_30 rfl ?_
    refine x_icmp_ge (tgt := 40) hX dX12_seeksSequence_31 (by decide) rfl rfl (fun hc => ?_) (fun hc => ?_)
    · replace h := (if_pos hc).symm.trans h
      refine x_iloadn hX dX12_seeksSequence_34 rfl ?_
      refine x_istoren (ls' := [some (vr (xG X) 139), some (vi r_11), some (vi r_11)]) hX dX12_seeksSequence_35 rfl rfl rfl ?_
      refine x_aloadn hX dX12_seeksSequence_36 rfl ?_
      obtain ⟨M_14, er_13, h⟩ := cl1_of h
      refine x_callVv (t := 11) (As := []) (rest := []) hX dX12_seeksSequence_37 (c_X12_keepsBest (gk hX) (gl hX) hs M_10 _ er_13) kX12_keepsBest vX12_keepsBest w_2205 (st139 hs) rfl rfl rfl rfl (Nat.le_of_ble_eq_true rfl) z0 ?_
      exact x_weak [true, true, false] rfl (tj_X12_seeksSequence_40_13 hX hs r_11 M_14 o h hP hE hR)
    · replace h := (if_neg hc).symm.trans h
      exact x_weak [true, true, false] rfl (tj_X12_seeksSequence_40_13 hX hs x1 M_10 o h hP hE hR)
set_option maxRecDepth 100000 in
set_option maxHeartbeats 4000000 in
theorem ts_X12_seeksSequence_45 {X : Cxt} (hX : Gd X RX12 cX12_seeksSequence 3 (none) 4) (hs : SOK (xG X))  (x2 : Int) (M : Mem) {Q : State → Prop} (o : (Int × Mem) ⊕ ((Mem) ⊕ (Mem))) (h : s_X12_seeksSequence_45 x2 M = some o) (hP : ∀ y, o = .inl y → V X 0 0 Q 45 [some (vr (xG X) 139), none, some (vi y.1)] [] y.2) (hE : ∀ z, o = .inr (.inl z) → V X 0 0 Q 73 [none, none, none] [] z) (hR : ∀ q, o = .inr (.inr q) → Q = Qn X none q) : V X 0 0 Q 45 [some (vr (xG X) 139), none, some (vi x2)] [] M := by
  unfold s_X12_seeksSequence_45 at h
  refine x_iloadn hX dX12_seeksSequence_45 rfl ?_
  refine x_aloadn hX dX12_seeksSequence_46 rfl ?_
  refine x_getRj (j := 140) hX dX12_seeksSequence_47 fl_X12_7 rfl (st139 hs) rfl ?_
  refine x_iconst hX dX12_seeksSequence_50 ?_
  refine x_iald hX dX12_seeksSequence_51 (st140 hs) inc_5_469 ixc_5 ?_
  refine x_icmp_ge (tgt := 73) hX dX12_seeksSequence_52 (by decide) rfl rfl (fun hc => ?_) (fun hc => ?_)
  · replace h := (if_pos hc).symm.trans h
    refine x_aloadn hX dX12_seeksSequence_55 rfl ?_
    refine x_getRj (j := 149) hX dX12_seeksSequence_56 fl_X12_38 rfl (st139 hs) rfl ?_
    refine x_iloadn hX dX12_seeksSequence_59 rfl ?_
    refine x_aloadn hX dX12_seeksSequence_60 rfl ?_
    refine x_getRj (j := 153) hX dX12_seeksSequence_61 fl_X12_50 rfl (st139 hs) rfl ?_
    refine x_iloadn hX dX12_seeksSequence_64 rfl ?_
    obtain ⟨b_16, h⟩ := gi_of h
    refine x_iald hX dX12_seeksSequence_65 (st153 hs) b_16 rfl ?_
    obtain ⟨b_18, h⟩ := gi_of h
    obtain ⟨M_17, eM_17, h⟩ := bnd_of h
    refine x_iast hX dX12_seeksSequence_66 (st149 hs) b_18 rfl (x_meq eM_17 ?_)
    obtain ⟨x2_19, ex2_19, h⟩ := bnd_of h
    refine x_iinc (ls' := [some (vr (xG X) 139), none, some (vi x2_19)]) hX dX12_seeksSequence_67 rfl rfl ex2_19 rfl ?_
    refine x_goto (tgt := 45) hX dX12_seeksSequence_70 (by decide) ?_
    exact x_weak [true, false, true] rfl (hP (x2_19, M_17) (Option.some.inj h).symm)
  · replace h := (if_neg hc).symm.trans h
    exact x_weak [false, false, false] rfl (hE M (Option.some.inj h).symm)
set_option maxRecDepth 100000 in
set_option maxHeartbeats 4000000 in
theorem c_X12_seeksSequence {l : Launch} {G : Gx} (hG : GOK G) (hl : l.stackTraces = false) (hs : SOK G)  (M : Mem) (Mr : Mem) (h : f_X12_seeksSequence M = some Mr) : Cn l G mX12_seeksSequence 4 [vr G 139] M none Mr := by
  refine Cn_of2 (ls := [some (vr G 139), none, none]) hG hl kX12_seeksSequence rfl (Nat.le_of_ble_eq_true rfl) rfl rfl rfl rfl rfl (fun X eG el hX => ?_)
  subst eG; subst el
  unfold f_X12_seeksSequence at h
  refine x_aloadn hX dX12_seeksSequence_0 rfl ?_
  obtain ⟨M_2, er_1, h⟩ := cl1_of h
  refine x_callVv (t := 11) (As := []) (rest := []) hX dX12_seeksSequence_1 (c_X12_laysTimes (gk hX) (gl hX) hs M _ er_1) kX12_laysTimes vX12_laysTimes w_2127 (st139 hs) rfl rfl rfl rfl (Nat.le_of_ble_eq_true rfl) z0 ?_
  refine x_aloadn hX dX12_seeksSequence_4 rfl ?_
  obtain ⟨r_3, er_3, h⟩ := cl1_of h
  refine x_callVi (t := 11) (As := []) (rest := []) hX dX12_seeksSequence_5 (c_X12_tardiness (gk hX) (gl hX) hs M_2 _ er_3) kX12_tardiness vX12_tardiness w_2170 (st139 hs) rfl rfl rfl rfl (Nat.le_of_ble_eq_true rfl) z0 ?_
  refine x_istoren (ls' := [some (vr (xG X) 139), some (vi r_3), none]) hX dX12_seeksSequence_8 rfl rfl rfl ?_
  refine x_aloadn hX dX12_seeksSequence_9 rfl ?_
  obtain ⟨M_6, er_5, h⟩ := cl1_of h
  refine x_callVv (t := 11) (As := []) (rest := []) hX dX12_seeksSequence_10 (c_X12_keepsBest (gk hX) (gl hX) hs M_2 _ er_5) kX12_keepsBest vX12_keepsBest w_2205 (st139 hs) rfl rfl rfl rfl (Nat.le_of_ble_eq_true rfl) z0 ?_
  refine x_weak (ls' := [some (vr (xG X) 139), some (vi r_3), none]) [true, true, false] rfl ?_
  refine lp_use (x := (r_3, M_6)) (P := fun x => V X 0 0 (Qn X none Mr) 13 [some (vr (xG X) 139), some (vi x.1), none] [] x.2) (PE := fun z_15 => V X 0 0 (Qn X none Mr) 43 [some (vr (xG X) 139), none, none] [] z_15) (PR := fun q => (Qn X none Mr) = Qn X none q) h (fun x o hh hP hE hR => ts_X12_seeksSequence_13 hX hs x.1 x.2 o hh hP hE hR) (fun z_15 h => ?_) (fun q h => ?_)
  · show V X 0 0 (Qn X none Mr) 43 [some (vr (xG X) 139), none, none] [] z_15
    refine x_iconst hX dX12_seeksSequence_43 ?_
    refine x_istoren (ls' := [some (vr (xG X) 139), none, some (vi 0)]) hX dX12_seeksSequence_44 rfl rfl rfl ?_
    refine x_weak (ls' := [some (vr (xG X) 139), none, some (vi 0)]) [true, false, true] rfl ?_
    refine lp_use (x := (0, z_15)) (P := fun x => V X 0 0 (Qn X none Mr) 45 [some (vr (xG X) 139), none, some (vi x.1)] [] x.2) (PE := fun z_20 => V X 0 0 (Qn X none Mr) 73 [none, none, none] [] z_20) (PR := fun q => (Qn X none Mr) = Qn X none q) h (fun x o hh hP hE hR => ts_X12_seeksSequence_45 hX hs x.1 x.2 o hh hP hE hR) (fun z_20 h => ?_) (fun q h => ?_)
    · show V X 0 0 (Qn X none Mr) 73 [none, none, none] [] z_20
      cases h
      exact x_vret hX dX12_seeksSequence_73 rfl
    · cases h; rfl
  · cases h; rfl
set_option maxRecDepth 100000 in
set_option maxHeartbeats 4000000 in
theorem c_X12_pickedUnits {l : Launch} {G : Gx} (hG : GOK G) (hl : l.stackTraces = false) (hs : SOK G)  (x1 : Int) (x2 : Int) (M : Mem) (r : Int) (Mr : Mem) (h : f_X12_pickedUnits x1 x2 M = some (r, Mr)) : Cn l G mX12_pickedUnits 4 [vr G 139, vi x1, vi x2] M (some (vi r)) Mr := by
  refine Cn_of2 (ls := [some (vr G 139), some (vi x1), some (vi x2)]) hG hl kX12_pickedUnits rfl (Nat.le_of_ble_eq_true rfl) rfl rfl rfl rfl rfl (fun X eG el hX => ?_)
  subst eG; subst el
  unfold f_X12_pickedUnits at h
  refine x_aloadn hX dX12_pickedUnits_0 rfl ?_
  refine x_iloadn hX dX12_pickedUnits_1 rfl ?_
  refine x_iloadn hX dX12_pickedUnits_2 rfl ?_
  refine x_iconst hX dX12_pickedUnits_3 ?_
  obtain ⟨r_1, M_2, er_1, h⟩ := cl2_of h
  refine x_callVi (t := 11) (As := [vi x1, vi x2, vi 0]) (rest := []) hX dX12_pickedUnits_4 (c_X12_ofLine (gk hX) (gl hX) hs x1 x2 0 M _ _ er_1) kX12_ofLine vX12_ofLine w_2229 (st139 hs) rfl rfl rfl rfl (Nat.le_of_ble_eq_true rfl) z0 ?_
  cases h
  exact x_iret hX dX12_pickedUnits_7 rfl
set_option maxRecDepth 100000 in
set_option maxHeartbeats 4000000 in
theorem c_X12_shortUnits {l : Launch} {G : Gx} (hG : GOK G) (hl : l.stackTraces = false) (hs : SOK G)  (x1 : Int) (x2 : Int) (M : Mem) (r : Int) (Mr : Mem) (h : f_X12_shortUnits x1 x2 M = some (r, Mr)) : Cn l G mX12_shortUnits 4 [vr G 139, vi x1, vi x2] M (some (vi r)) Mr := by
  refine Cn_of2 (ls := [some (vr G 139), some (vi x1), some (vi x2)]) hG hl kX12_shortUnits rfl (Nat.le_of_ble_eq_true rfl) rfl rfl rfl rfl rfl (fun X eG el hX => ?_)
  subst eG; subst el
  unfold f_X12_shortUnits at h
  refine x_aloadn hX dX12_shortUnits_0 rfl ?_
  refine x_iloadn hX dX12_shortUnits_1 rfl ?_
  refine x_iloadn hX dX12_shortUnits_2 rfl ?_
  refine x_iconst hX dX12_shortUnits_3 ?_
  obtain ⟨r_1, M_2, er_1, h⟩ := cl2_of h
  refine x_callVi (t := 11) (As := [vi x1, vi x2, vi 1]) (rest := []) hX dX12_shortUnits_4 (c_X12_ofLine (gk hX) (gl hX) hs x1 x2 1 M _ _ er_1) kX12_ofLine vX12_ofLine w_2229 (st139 hs) rfl rfl rfl rfl (Nat.le_of_ble_eq_true rfl) z0 ?_
  cases h
  exact x_iret hX dX12_shortUnits_7 rfl
set_option maxRecDepth 100000 in
set_option maxHeartbeats 4000000 in
theorem c_X12_totalOrdered {l : Launch} {G : Gx} (hG : GOK G) (hl : l.stackTraces = false) (hs : SOK G)  (M : Mem) (r : Int) (Mr : Mem) (h : f_X12_totalOrdered M = some (r, Mr)) : Cn l G mX12_totalOrdered 4 [vr G 139] M (some (vi r)) Mr := by
  refine Cn_of2 (ls := [some (vr G 139)]) hG hl kX12_totalOrdered rfl (Nat.le_of_ble_eq_true rfl) rfl rfl rfl rfl rfl (fun X eG el hX => ?_)
  subst eG; subst el
  unfold f_X12_totalOrdered at h
  refine x_aloadn hX dX12_totalOrdered_0 rfl ?_
  refine x_iconst hX dX12_totalOrdered_1 ?_
  obtain ⟨r_1, M_2, er_1, h⟩ := cl2_of h
  refine x_callVi (t := 11) (As := [vi 1]) (rest := []) hX dX12_totalOrdered_2 (c_X12_sumOf (gk hX) (gl hX) hs 1 M _ _ er_1) kX12_sumOf vX12_sumOf w_2241 (st139 hs) rfl rfl rfl rfl (Nat.le_of_ble_eq_true rfl) z0 ?_
  cases h
  exact x_iret hX dX12_totalOrdered_5 rfl
set_option maxRecDepth 100000 in
set_option maxHeartbeats 4000000 in
theorem c_X12_totalPicked {l : Launch} {G : Gx} (hG : GOK G) (hl : l.stackTraces = false) (hs : SOK G)  (M : Mem) (r : Int) (Mr : Mem) (h : f_X12_totalPicked M = some (r, Mr)) : Cn l G mX12_totalPicked 4 [vr G 139] M (some (vi r)) Mr := by
  refine Cn_of2 (ls := [some (vr G 139)]) hG hl kX12_totalPicked rfl (Nat.le_of_ble_eq_true rfl) rfl rfl rfl rfl rfl (fun X eG el hX => ?_)
  subst eG; subst el
  unfold f_X12_totalPicked at h
  refine x_aloadn hX dX12_totalPicked_0 rfl ?_
  refine x_iconst hX dX12_totalPicked_1 ?_
  obtain ⟨r_1, M_2, er_1, h⟩ := cl2_of h
  refine x_callVi (t := 11) (As := [vi 2]) (rest := []) hX dX12_totalPicked_2 (c_X12_sumOf (gk hX) (gl hX) hs 2 M _ _ er_1) kX12_sumOf vX12_sumOf w_2241 (st139 hs) rfl rfl rfl rfl (Nat.le_of_ble_eq_true rfl) z0 ?_
  cases h
  exact x_iret hX dX12_totalPicked_5 rfl
set_option maxRecDepth 100000 in
set_option maxHeartbeats 4000000 in
theorem tj_X12_reorder_185_117 {X : Cxt} (hX : Gd X RX12 cX12_reorder 8 (some .int) 4) (hs : SOK (xG X))   (x1 : Int) (x4 : Int) (x5 : Int) (y0 : Int) (M : Mem) {Q : State → Prop} (o : (Int × Mem) ⊕ ((Mem) ⊕ (Int × Mem))) (h : j_X12_reorder_185_117 x1 x4 x5 y0 M = some o) (hP : ∀ y, o = .inl y → V X 0 0 Q 117 [some (vr (xG X) 139), some (vi x1), none, none, some (vi x4), some (vi y.1), none, none] [] y.2) (hE : ∀ z, o = .inr (.inl z) → V X 0 0 Q 193 [some (vr (xG X) 139), some (vi x1), none, none, some (vi x4), none, none, none] [] z) (hR : ∀ q, o = .inr (.inr q) → Q = Qn X (some (vi q.1)) q.2) : V X 0 0 Q 185 [some (vr (xG X) 139), some (vi x1), none, none, some (vi x4), some (vi x5), none, none] [vi y0] M := by
  unfold j_X12_reorder_185_117 at h
  refine x_istore (ls' := [some (vr (xG X) 139), some (vi x1), none, none, some (vi x4), some (vi x5), none, some (vi y0)]) hX dX12_reorder_185 rfl rfl rfl ?_
  obtain ⟨x5_25, ex5_25, h⟩ := bnd_of h
  refine x_iinc (ls' := [some (vr (xG X) 139), some (vi x1), none, none, some (vi x4), some (vi x5_25), none, some (vi y0)]) hX dX12_reorder_187 rfl rfl ex5_25 rfl ?_
  refine x_goto (tgt := 117) hX dX12_reorder_190 (by decide) ?_
  exact x_weak [true, true, false, false, true, true, false, false] rfl (hP (x5_25, M) (Option.some.inj h).symm)
set_option maxRecDepth 100000 in
set_option maxHeartbeats 4000000 in
theorem ts_X12_reorder_117 {X : Cxt} (hX : Gd X RX12 cX12_reorder 8 (some .int) 4) (hs : SOK (xG X))  (x1 : Int) (x4 : Int) (x5 : Int) (M : Mem) {Q : State → Prop} (o : (Int × Mem) ⊕ ((Mem) ⊕ (Int × Mem))) (h : s_X12_reorder_117 x1 x4 x5 M = some o) (hP : ∀ y, o = .inl y → V X 0 0 Q 117 [some (vr (xG X) 139), some (vi x1), none, none, some (vi x4), some (vi y.1), none, none] [] y.2) (hE : ∀ z, o = .inr (.inl z) → V X 0 0 Q 193 [some (vr (xG X) 139), some (vi x1), none, none, some (vi x4), none, none, none] [] z) (hR : ∀ q, o = .inr (.inr q) → Q = Qn X (some (vi q.1)) q.2) : V X 0 0 Q 117 [some (vr (xG X) 139), some (vi x1), none, none, some (vi x4), some (vi x5), none, none] [] M := by
  unfold s_X12_reorder_117 at h
  refine x_iload hX dX12_reorder_117 rfl ?_
  refine x_aloadn hX dX12_reorder_119 rfl ?_
  refine x_iloadn hX dX12_reorder_120 rfl ?_
  refine x_iconst hX dX12_reorder_121 ?_
  obtain ⟨r_11, er_11, h⟩ := cl1_of h
  refine x_callVi (t := 11) (As := [vi x1, vi 2]) (rest := [vi x5]) hX dX12_reorder_122 (c_X12_ofOrder (gk hX) (gl hX) hs x1 2 M _ er_11) kX12_ofOrder vX12_ofOrder w_1797 (st139 hs) rfl rfl rfl rfl (Nat.le_of_ble_eq_true rfl) z0 ?_
  refine x_icmp_ge (tgt := 193) hX dX12_reorder_125 (by decide) rfl rfl (fun hc => ?_) (fun hc => ?_)
  · replace h := (if_pos hc).symm.trans h
    refine x_aloadn hX dX12_reorder_128 rfl ?_
    refine x_getRj (j := 140) hX dX12_reorder_129 fl_X12_7 rfl (st139 hs) rfl ?_
    refine x_iloadn hX dX12_reorder_132 rfl ?_
    refine x_iload hX dX12_reorder_133 rfl ?_
    obtain ⟨r_13, er_13, h⟩ := cl1_of h
    refine x_callSi (As := [vi x1, vi x5]) (rest := [vr (xG X) 140]) hX dX12_reorder_135 (c_X12_lineAt (gk hX) (gl hX) x1 x5 M _ er_13) kX12_lineAt sX12_lineAt w_1805 rfl rfl rfl (Nat.le_of_ble_eq_true rfl) z0 ?_
    refine x_iconst hX dX12_reorder_138 ?_
    refine x_iadd hX dX12_reorder_139 ?_
    obtain ⟨b_15, h⟩ := gi_of h
    refine x_iald hX dX12_reorder_140 (st140 hs) b_15 rfl ?_
    refine x_aloadn hX dX12_reorder_141 rfl ?_
    refine x_getRj (j := 140) hX dX12_reorder_142 fl_X12_7 rfl (st139 hs) rfl ?_
    refine x_iloadn hX dX12_reorder_145 rfl ?_
    refine x_iload hX dX12_reorder_146 rfl ?_
    obtain ⟨r_16, er_16, h⟩ := cl1_of h
    refine x_callSi (As := [vi x1, vi x5]) (rest := [vr (xG X) 140, vi (M 140 (ix (r_13 + 1)))]) hX dX12_reorder_148 (c_X12_lineAt (gk hX) (gl hX) x1 x5 M _ er_16) kX12_lineAt sX12_lineAt w_1805 rfl rfl rfl (Nat.le_of_ble_eq_true rfl) z0 ?_
    refine x_iconst hX dX12_reorder_151 ?_
    refine x_iadd hX dX12_reorder_152 ?_
    obtain ⟨b_18, h⟩ := gi_of h
    refine x_iald hX dX12_reorder_153 (st140 hs) b_18 rfl ?_
    refine x_isub hX dX12_reorder_154 ?_
    obtain ⟨x6_19, ex6_19, h⟩ := bnd_of h
    refine x_istore (ls' := [some (vr (xG X) 139), some (vi x1), none, none, some (vi x4), some (vi x5), some (vi x6_19), none]) hX dX12_reorder_155 rfl ex6_19 rfl ?_
    refine x_iload hX dX12_reorder_157 rfl ?_
    refine x_if_le (tgt := 184) hX dX12_reorder_159 (by decide) rfl (fun hc => ?_) (fun hc => ?_)
    · replace h := (if_pos hc).symm.trans h
      refine x_aloadn hX dX12_reorder_162 rfl ?_
      refine x_iload hX dX12_reorder_163 rfl ?_
      refine x_aloadn hX dX12_reorder_165 rfl ?_
      refine x_getRj (j := 140) hX dX12_reorder_166 fl_X12_7 rfl (st139 hs) rfl ?_
      refine x_iloadn hX dX12_reorder_169 rfl ?_
      refine x_iload hX dX12_reorder_170 rfl ?_
      obtain ⟨r_20, er_20, h⟩ := cl1_of h
      refine x_callSi (As := [vi x1, vi x5]) (rest := [vr (xG X) 140, vi x4, vr (xG X) 139]) hX dX12_reorder_172 (c_X12_lineAt (gk hX) (gl hX) x1 x5 M _ er_20) kX12_lineAt sX12_lineAt w_1805 rfl rfl rfl (Nat.le_of_ble_eq_true rfl) z0 ?_
      obtain ⟨b_22, h⟩ := gi_of h
      refine x_iald hX dX12_reorder_175 (st140 hs) b_22 rfl ?_
      refine x_iload hX dX12_reorder_176 rfl ?_
      obtain ⟨r_23, M_24, er_23, h⟩ := cl2_of h
      refine x_callVi (t := 11) (As := [vi x4, vi (M 140 (ix r_20)), vi x6_19]) (rest := []) hX dX12_reorder_178 (c_X12_addsLine (gk hX) (gl hX) hs x4 (M 140 (ix r_20)) x6_19 M _ _ er_23) kX12_addsLine vX12_addsLine w_1808 (st139 hs) rfl rfl rfl rfl (Nat.le_of_ble_eq_true rfl) z0 ?_
      refine x_goto (tgt := 185) hX dX12_reorder_181 (by decide) ?_
      exact x_weak [true, true, false, false, true, true, false, false] rfl (tj_X12_reorder_185_117 hX hs x1 x4 x5 r_23 M_24 o h hP hE hR)
    · replace h := (if_neg hc).symm.trans h
      refine x_iconst hX dX12_reorder_184 ?_
      exact x_weak [true, true, false, false, true, true, false, false] rfl (tj_X12_reorder_185_117 hX hs x1 x4 x5 (-1) M o h hP hE hR)
  · replace h := (if_neg hc).symm.trans h
    exact x_weak [true, true, false, false, true, false, false, false] rfl (hE M (Option.some.inj h).symm)
set_option maxRecDepth 100000 in
set_option maxHeartbeats 4000000 in
theorem tj_X12_reorder_95 {X : Cxt} (hX : Gd X RX12 cX12_reorder 8 (some .int) 4) (hs : SOK (xG X))   (x1 : Int) (x2 : Int) (y1 : Int) (M : Mem) (r : Int) (Mr : Mem) (h : j_X12_reorder_95 x1 x2 y1 M = some (r, Mr)) : V X 0 0 (Qn X (some (vi r)) Mr) 95 [some (vr (xG X) 139), some (vi x1), some (vi x2), none, none, none, none, none] [vi y1, vr (xG X) 139] M := by
  unfold j_X12_reorder_95 at h
  obtain ⟨M_8, eM_8, h⟩ := bnd_of h
  refine x_putI hX dX12_reorder_95 fp_X12_70 rfl (st139 hs) (x_meq eM_8 ?_)
  refine x_aloadn hX dX12_reorder_98 rfl ?_
  refine x_getI hX dX12_reorder_99 fl_X12_70 rfl (st139 hs) ?_
  refine x_if_le (tgt := 107) hX dX12_reorder_102 (by decide) rfl (fun hc => ?_) (fun hc => ?_)
  · replace h := (if_pos hc).symm.trans h
    refine x_iconst hX dX12_reorder_105 ?_
    cases h
    exact x_iret hX dX12_reorder_106 rfl
  · replace h := (if_neg hc).symm.trans h
    refine x_aloadn hX dX12_reorder_107 rfl ?_
    refine x_iloadn hX dX12_reorder_108 rfl ?_
    obtain ⟨r_9, M_10, er_9, h⟩ := cl2_of h
    refine x_callVi (t := 11) (As := [vi x2]) (rest := []) hX dX12_reorder_109 (c_X12_opensOrder (gk hX) (gl hX) hs x2 M_8 _ _ er_9) kX12_opensOrder vX12_opensOrder w_1782 (st139 hs) rfl rfl rfl rfl (Nat.le_of_ble_eq_true rfl) z0 ?_
    refine x_istore (ls' := [some (vr (xG X) 139), some (vi x1), some (vi x2), none, some (vi r_9), none, none, none]) hX dX12_reorder_112 rfl rfl rfl ?_
    refine x_iconst hX dX12_reorder_114 ?_
    refine x_istore (ls' := [some (vr (xG X) 139), some (vi x1), some (vi x2), none, some (vi r_9), some (vi 0), none, none]) hX dX12_reorder_115 rfl rfl rfl ?_
    refine x_weak (ls' := [some (vr (xG X) 139), some (vi x1), none, none, some (vi r_9), some (vi 0), none, none]) [true, true, false, false, true, true, false, false] rfl ?_
    refine lp_use (x := (0, M_10)) (P := fun x => V X 0 0 (Qn X (some (vi r)) Mr) 117 [some (vr (xG X) 139), some (vi x1), none, none, some (vi r_9), some (vi x.1), none, none] [] x.2) (PE := fun z_26 => V X 0 0 (Qn X (some (vi r)) Mr) 193 [some (vr (xG X) 139), some (vi x1), none, none, some (vi r_9), none, none, none] [] z_26) (PR := fun q => (Qn X (some (vi r)) Mr) = Qn X (some (vi q.1)) q.2) h (fun x o hh hP hE hR => ts_X12_reorder_117 hX hs x1 r_9 x.1 x.2 o hh hP hE hR) (fun z_26 h => ?_) (fun q h => ?_)
    · show V X 0 0 (Qn X (some (vi r)) Mr) 193 [some (vr (xG X) 139), some (vi x1), none, none, some (vi r_9), none, none, none] [] z_26
      refine x_aloadn hX dX12_reorder_193 rfl ?_
      refine x_getRj (j := 140) hX dX12_reorder_194 fl_X12_7 rfl (st139 hs) rfl ?_
      refine x_iloadn hX dX12_reorder_197 rfl ?_
      obtain ⟨r_27, er_27, h⟩ := cl1_of h
      refine x_callSi (As := [vi x1]) (rest := [vr (xG X) 140]) hX dX12_reorder_198 (c_X12_orderAt (gk hX) (gl hX) x1 z_26 _ er_27) kX12_orderAt sX12_orderAt w_1786 rfl rfl rfl (Nat.le_of_ble_eq_true rfl) z0 ?_
      refine x_iconst hX dX12_reorder_201 ?_
      refine x_iadd hX dX12_reorder_202 ?_
      refine x_iconst hX dX12_reorder_203 ?_
      obtain ⟨b_30, h⟩ := gi_of h
      obtain ⟨M_29, eM_29, h⟩ := bnd_of h
      refine x_iast hX dX12_reorder_204 (st140 hs) b_30 rfl (x_meq eM_29 ?_)
      refine x_iload hX dX12_reorder_205 rfl ?_
      cases h
      exact x_iret hX dX12_reorder_207 rfl
    · cases h; rfl
set_option maxRecDepth 100000 in
set_option maxHeartbeats 4000000 in
theorem tj_X12_reorder_94 {X : Cxt} (hX : Gd X RX12 cX12_reorder 8 (some .int) 4) (hs : SOK (xG X))   (x1 : Int) (x2 : Int) (M : Mem) (r : Int) (Mr : Mem) (h : j_X12_reorder_94 x1 x2 M = some (r, Mr)) : V X 0 0 (Qn X (some (vi r)) Mr) 94 [some (vr (xG X) 139), some (vi x1), some (vi x2), none, none, none, none, none] [vr (xG X) 139] M := by
  unfold j_X12_reorder_94 at h
  refine x_iconst hX dX12_reorder_94 ?_
  exact x_weak [true, true, true, false, false, false, false, false] rfl (tj_X12_reorder_95 hX hs x1 x2 3 M r Mr h)
set_option maxRecDepth 100000 in
set_option maxHeartbeats 4000000 in
theorem tj_X12_reorder_76 {X : Cxt} (hX : Gd X RX12 cX12_reorder 8 (some .int) 4) (hs : SOK (xG X))   (x1 : Int) (x2 : Int) (y0 : Int) (M : Mem) (r : Int) (Mr : Mem) (h : j_X12_reorder_76 x1 x2 y0 M = some (r, Mr)) : V X 0 0 (Qn X (some (vi r)) Mr) 76 [some (vr (xG X) 139), some (vi x1), some (vi x2), none, none, none, none, none] [vi y0] M := by
  unfold j_X12_reorder_76 at h
  refine x_istoren (ls' := [some (vr (xG X) 139), some (vi x1), some (vi x2), some (vi y0), none, none, none, none]) hX dX12_reorder_76 rfl rfl rfl ?_
  refine x_aloadn hX dX12_reorder_77 rfl ?_
  refine x_iloadn hX dX12_reorder_78 rfl ?_
  refine x_if_eq (tgt := 94) hX dX12_reorder_79 (by decide) rfl (fun hc => ?_) (fun hc => ?_)
  · replace h := (if_pos hc).symm.trans h
    exact x_weak [true, true, true, false, false, false, false, false] rfl (tj_X12_reorder_94 hX hs x1 x2 M r Mr h)
  · replace h := (if_neg hc).symm.trans h
    refine x_aloadn hX dX12_reorder_82 rfl ?_
    refine x_iloadn hX dX12_reorder_83 rfl ?_
    obtain ⟨r_31, er_31, h⟩ := cl1_of h
    refine x_callVi (t := 11) (As := [vi x1]) (rest := [vr (xG X) 139]) hX dX12_reorder_84 (c_X12_shortOf (gk hX) (gl hX) hs x1 M _ er_31) kX12_shortOf vX12_shortOf w_2253 (st139 hs) rfl rfl rfl rfl (Nat.le_of_ble_eq_true rfl) z0 ?_
    refine x_if_le (tgt := 94) hX dX12_reorder_87 (by decide) rfl (fun hc => ?_) (fun hc => ?_)
    · replace h := (if_pos hc).symm.trans h
      refine x_iconst hX dX12_reorder_90 ?_
      refine x_goto (tgt := 95) hX dX12_reorder_91 (by decide) ?_
      exact x_weak [true, true, true, false, false, false, false, false] rfl (tj_X12_reorder_95 hX hs x1 x2 0 M r Mr h)
    · replace h := (if_neg hc).symm.trans h
      exact x_weak [true, true, true, false, false, false, false, false] rfl (tj_X12_reorder_94 hX hs x1 x2 M r Mr h)
set_option maxRecDepth 100000 in
set_option maxHeartbeats 4000000 in
theorem tj_X12_reorder_75 {X : Cxt} (hX : Gd X RX12 cX12_reorder 8 (some .int) 4) (hs : SOK (xG X))   (x1 : Int) (x2 : Int) (M : Mem) (r : Int) (Mr : Mem) (h : j_X12_reorder_75 x1 x2 M = some (r, Mr)) : V X 0 0 (Qn X (some (vi r)) Mr) 75 [some (vr (xG X) 139), some (vi x1), some (vi x2), none, none, none, none, none] [] M := by
  unfold j_X12_reorder_75 at h
  refine x_iconst hX dX12_reorder_75 ?_
  exact x_weak [true, true, true, false, false, false, false, false] rfl (tj_X12_reorder_76 hX hs x1 x2 0 M r Mr h)
set_option maxRecDepth 100000 in
set_option maxHeartbeats 4000000 in
theorem tj_X12_reorder_29 {X : Cxt} (hX : Gd X RX12 cX12_reorder 8 (some .int) 4) (hs : SOK (xG X))   (x1 : Int) (x2 : Int) (y1 : Int) (M : Mem) (r : Int) (Mr : Mem) (h : j_X12_reorder_29 x1 x2 y1 M = some (r, Mr)) : V X 0 0 (Qn X (some (vi r)) Mr) 29 [some (vr (xG X) 139), some (vi x1), some (vi x2), none, none, none, none, none] [vi y1, vr (xG X) 139] M := by
  unfold j_X12_reorder_29 at h
  obtain ⟨M_3, eM_3, h⟩ := bnd_of h
  refine x_putI hX dX12_reorder_29 fp_X12_70 rfl (st139 hs) (x_meq eM_3 ?_)
  refine x_aloadn hX dX12_reorder_32 rfl ?_
  refine x_getI hX dX12_reorder_33 fl_X12_70 rfl (st139 hs) ?_
  refine x_if_le (tgt := 41) hX dX12_reorder_36 (by decide) rfl (fun hc => ?_) (fun hc => ?_)
  · replace h := (if_pos hc).symm.trans h
    refine x_iconst hX dX12_reorder_39 ?_
    cases h
    exact x_iret hX dX12_reorder_40 rfl
  · replace h := (if_neg hc).symm.trans h
    refine x_aloadn hX dX12_reorder_41 rfl ?_
    refine x_iloadn hX dX12_reorder_42 rfl ?_
    refine x_iconst hX dX12_reorder_43 ?_
    obtain ⟨r_4, er_4, h⟩ := cl1_of h
    refine x_callVi (t := 11) (As := [vi x1, vi 1]) (rest := []) hX dX12_reorder_44 (c_X12_ofOrder (gk hX) (gl hX) hs x1 1 M_3 _ er_4) kX12_ofOrder vX12_ofOrder w_1797 (st139 hs) rfl rfl rfl rfl (Nat.le_of_ble_eq_true rfl) z0 ?_
    refine x_iconst hX dX12_reorder_47 ?_
    refine x_icmp_ne (tgt := 75) hX dX12_reorder_48 (by decide) rfl cw_2 (fun hc => ?_) (fun hc => ?_)
    · replace h := (if_pos hc).symm.trans h
      refine x_aloadn hX dX12_reorder_51 rfl ?_
      refine x_iloadn hX dX12_reorder_52 rfl ?_
      refine x_iconst hX dX12_reorder_53 ?_
      obtain ⟨r_6, er_6, h⟩ := cl1_of h
      refine x_callVi (t := 11) (As := [vi x1, vi 3]) (rest := []) hX dX12_reorder_54 (c_X12_ofOrder (gk hX) (gl hX) hs x1 3 M_3 _ er_6) kX12_ofOrder vX12_ofOrder w_1797 (st139 hs) rfl rfl rfl rfl (Nat.le_of_ble_eq_true rfl) z0 ?_
      refine x_if_ne (tgt := 75) hX dX12_reorder_57 (by decide) rfl (fun hc => ?_) (fun hc => ?_)
      · replace h := (if_pos hc).symm.trans h
        refine x_aloadn hX dX12_reorder_60 rfl ?_
        refine x_getRj (j := 140) hX dX12_reorder_61 fl_X12_7 rfl (st139 hs) rfl ?_
        refine x_iconst hX dX12_reorder_64 ?_
        refine x_iald hX dX12_reorder_65 (st140 hs) inc_4_469 ixc_4 ?_
        refine x_bipush hX dX12_reorder_66 bp_16 ?_
        refine x_icmp_ge (tgt := 75) hX dX12_reorder_68 (by decide) rfl cw_16 (fun hc => ?_) (fun hc => ?_)
        · replace h := (if_pos hc).symm.trans h
          refine x_iconst hX dX12_reorder_71 ?_
          refine x_goto (tgt := 76) hX dX12_reorder_72 (by decide) ?_
          exact x_weak [true, true, true, false, false, false, false, false] rfl (tj_X12_reorder_76 hX hs x1 x2 1 M_3 r Mr h)
        · replace h := (if_neg hc).symm.trans h
          exact x_weak [true, true, true, false, false, false, false, false] rfl (tj_X12_reorder_75 hX hs x1 x2 M_3 r Mr h)
      · replace h := (if_neg hc).symm.trans h
        exact x_weak [true, true, true, false, false, false, false, false] rfl (tj_X12_reorder_75 hX hs x1 x2 M_3 r Mr h)
    · replace h := (if_neg hc).symm.trans h
      exact x_weak [true, true, true, false, false, false, false, false] rfl (tj_X12_reorder_75 hX hs x1 x2 M_3 r Mr h)
set_option maxRecDepth 100000 in
set_option maxHeartbeats 4000000 in
theorem c_X12_reorder {l : Launch} {G : Gx} (hG : GOK G) (hl : l.stackTraces = false) (hs : SOK G)  (x1 : Int) (x2 : Int) (M : Mem) (r : Int) (Mr : Mem) (h : f_X12_reorder x1 x2 M = some (r, Mr)) : Cn l G mX12_reorder 4 [vr G 139, vi x1, vi x2] M (some (vi r)) Mr := by
  refine Cn_of2 (ls := [some (vr G 139), some (vi x1), some (vi x2), none, none, none, none, none]) hG hl kX12_reorder rfl (Nat.le_of_ble_eq_true rfl) rfl rfl rfl rfl rfl (fun X eG el hX => ?_)
  subst eG; subst el
  unfold f_X12_reorder at h
  refine x_aloadn hX dX12_reorder_0 rfl ?_
  refine x_aloadn hX dX12_reorder_1 rfl ?_
  refine x_iloadn hX dX12_reorder_2 rfl ?_
  obtain ⟨r_1, er_1, h⟩ := cl1_of h
  refine x_callVi (t := 11) (As := [vi x1]) (rest := [vr (xG X) 139]) hX dX12_reorder_3 (c_X12_isOrder (gk hX) (gl hX) hs x1 M _ er_1) kX12_isOrder vX12_isOrder w_1793 (st139 hs) rfl rfl rfl rfl (Nat.le_of_ble_eq_true rfl) z0 ?_
  refine x_if_ne (tgt := 13) hX dX12_reorder_6 (by decide) rfl (fun hc => ?_) (fun hc => ?_)
  · replace h := (if_pos hc).symm.trans h
    refine x_iconst hX dX12_reorder_9 ?_
    refine x_goto (tgt := 29) hX dX12_reorder_10 (by decide) ?_
    exact x_weak [true, true, true, false, false, false, false, false] rfl (tj_X12_reorder_29 hX hs x1 x2 1 M r Mr h)
  · replace h := (if_neg hc).symm.trans h
    refine x_iloadn hX dX12_reorder_13 rfl ?_
    refine x_iconst hX dX12_reorder_14 ?_
    refine x_sipush hX dX12_reorder_15 sp_9999 ?_
    obtain ⟨r_33, er_33, h⟩ := cl1_of h
    refine x_callSi (As := [vi x2, vi 0, vi 9999]) (rest := [vr (xG X) 139]) hX dX12_reorder_18 (c_X12_in (gk hX) (gl hX) x2 0 9999 M _ er_33) kX12_in sX12_in w_1735 rfl rfl rfl (Nat.le_of_ble_eq_true rfl) z0 ?_
    refine x_if_ne (tgt := 28) hX dX12_reorder_21 (by decide) rfl (fun hc => ?_) (fun hc => ?_)
    · replace h := (if_pos hc).symm.trans h
      refine x_iconst hX dX12_reorder_24 ?_
      refine x_goto (tgt := 29) hX dX12_reorder_25 (by decide) ?_
      exact x_weak [true, true, true, false, false, false, false, false] rfl (tj_X12_reorder_29 hX hs x1 x2 2 M r Mr h)
    · replace h := (if_neg hc).symm.trans h
      refine x_iconst hX dX12_reorder_28 ?_
      exact x_weak [true, true, true, false, false, false, false, false] rfl (tj_X12_reorder_29 hX hs x1 x2 0 M r Mr h)
set_option maxRecDepth 100000 in
set_option maxHeartbeats 4000000 in
theorem tj_X12_read_33 {X : Cxt} (hX : Gd X RX12 cX12_read 4 (some .int) 4) (hs : SOK (xG X))   (x1 : Int) (M : Mem) (r : Int) (Mr : Mem) (h : j_X12_read_33 x1 M = some (r, Mr)) : V X 0 0 (Qn X (some (vi r)) Mr) 33 [some (vr (xG X) 139), some (vi x1), none, none] [] M := by
  unfold j_X12_read_33 at h
  refine x_aloadn hX dX12_read_33 rfl ?_
  obtain ⟨r_5, er_5, h⟩ := cl1_of h
  refine x_callVi (t := 11) (As := []) (rest := []) hX dX12_read_34 (c_X12_isWell (gk hX) (gl hX) hs M _ er_5) kX12_isWell vX12_isWell w_2305 (st139 hs) rfl rfl rfl rfl (Nat.le_of_ble_eq_true rfl) z0 ?_
  refine x_if_ne (tgt := 42) hX dX12_read_37 (by decide) rfl (fun hc => ?_) (fun hc => ?_)
  · replace h := (if_pos hc).symm.trans h
    refine x_iloadn hX dX12_read_40 rfl ?_
    cases h
    exact x_iret hX dX12_read_41 rfl
  · replace h := (if_neg hc).symm.trans h
    refine x_aloadn hX dX12_read_42 rfl ?_
    refine x_getI hX dX12_read_43 fl_X12_374 rfl (st139 hs) ?_
    obtain ⟨x3_7, ex3_7, h⟩ := bnd_of h
    refine x_istoren (ls' := [some (vr (xG X) 139), some (vi x1), none, some (vi x3_7)]) hX dX12_read_46 rfl ex3_7 rfl ?_
    refine x_aloadn hX dX12_read_47 rfl ?_
    obtain ⟨M_9, er_8, h⟩ := cl1_of h
    refine x_callVv (t := 11) (As := []) (rest := []) hX dX12_read_48 (c_X12_next (gk hX) (gl hX) hs M _ er_8) kX12_next vX12_next w_2272 (st139 hs) rfl rfl rfl rfl (Nat.le_of_ble_eq_true rfl) z0 ?_
    refine x_iloadn hX dX12_read_51 rfl ?_
    cases h
    exact x_iret hX dX12_read_52 rfl
set_option maxRecDepth 100000 in
set_option maxHeartbeats 4000000 in
theorem c_X12_read {l : Launch} {G : Gx} (hG : GOK G) (hl : l.stackTraces = false) (hs : SOK G)  (x1 : Int) (x2 : Int) (M : Mem) (r : Int) (Mr : Mem) (h : f_X12_read x1 x2 M = some (r, Mr)) : Cn l G mX12_read 4 [vr G 139, vi x1, vi x2] M (some (vi r)) Mr := by
  refine Cn_of2 (ls := [some (vr G 139), some (vi x1), some (vi x2), none]) hG hl kX12_read rfl (Nat.le_of_ble_eq_true rfl) rfl rfl rfl rfl rfl (fun X eG el hX => ?_)
  subst eG; subst el
  unfold f_X12_read at h
  refine x_aloadn hX dX12_read_0 rfl ?_
  refine x_getI hX dX12_read_1 fl_X12_371 rfl (st139 hs) ?_
  refine x_iconst hX dX12_read_4 ?_
  refine x_icmp_eq (tgt := 16) hX dX12_read_5 (by decide) rfl cw_2 (fun hc => ?_) (fun hc => ?_)
  · replace h := (if_pos hc).symm.trans h
    refine x_aloadn hX dX12_read_16 rfl ?_
    refine x_getI hX dX12_read_17 fl_X12_374 rfl (st139 hs) ?_
    refine x_iloadn hX dX12_read_20 rfl ?_
    refine x_iloadn hX dX12_read_21 rfl ?_
    obtain ⟨r_1, er_1, h⟩ := cl1_of h
    refine x_callSi (As := [vi (M 139 27), vi x1, vi x2]) (rest := []) hX dX12_read_22 (c_X12_in (gk hX) (gl hX) (M 139 27) x1 x2 M _ er_1) kX12_in sX12_in w_1735 rfl rfl rfl (Nat.le_of_ble_eq_true rfl) z0 ?_
    refine x_if_ne (tgt := 33) hX dX12_read_25 (by decide) rfl (fun hc => ?_) (fun hc => ?_)
    · replace h := (if_pos hc).symm.trans h
      refine x_aloadn hX dX12_read_28 rfl ?_
      refine x_iconst hX dX12_read_29 ?_
      obtain ⟨M_4, er_3, h⟩ := cl1_of h
      refine x_callVv (t := 11) (As := [vi 2]) (rest := []) hX dX12_read_30 (c_X12_fails (gk hX) (gl hX) hs 2 M _ er_3) kX12_fails vX12_fails w_2297 (st139 hs) rfl rfl rfl rfl (Nat.le_of_ble_eq_true rfl) z0 ?_
      exact x_weak [true, true, false, false] rfl (tj_X12_read_33 hX hs x1 M_4 r Mr h)
    · replace h := (if_neg hc).symm.trans h
      exact x_weak [true, true, false, false] rfl (tj_X12_read_33 hX hs x1 M r Mr h)
  · replace h := (if_neg hc).symm.trans h
    refine x_aloadn hX dX12_read_8 rfl ?_
    refine x_iconst hX dX12_read_9 ?_
    obtain ⟨M_11, er_10, h⟩ := cl1_of h
    refine x_callVv (t := 11) (As := [vi 1]) (rest := []) hX dX12_read_10 (c_X12_fails (gk hX) (gl hX) hs 1 M _ er_10) kX12_fails vX12_fails w_2297 (st139 hs) rfl rfl rfl rfl (Nat.le_of_ble_eq_true rfl) z0 ?_
    refine x_goto (tgt := 33) hX dX12_read_13 (by decide) ?_
    exact x_weak [true, true, false, false] rfl (tj_X12_read_33 hX hs x1 M_11 r Mr h)
set_option maxRecDepth 100000 in
set_option maxHeartbeats 4000000 in
theorem tj_X12_ends_13 {X : Cxt} (hX : Gd X RX12 cX12_ends 1 (none) 4) (hs : SOK (xG X))   (M : Mem) (Mr : Mem) (h : j_X12_ends_13 M = some Mr) : V X 0 0 (Qn X none Mr) 13 [some (vr (xG X) 139)] [] M := by
  unfold j_X12_ends_13 at h
  refine x_aloadn hX dX12_ends_13 rfl ?_
  obtain ⟨r_1, er_1, h⟩ := cl1_of h
  refine x_callVi (t := 11) (As := []) (rest := []) hX dX12_ends_14 (c_X12_isWell (gk hX) (gl hX) hs M _ er_1) kX12_isWell vX12_isWell w_2305 (st139 hs) rfl rfl rfl rfl (Nat.le_of_ble_eq_true rfl) z0 ?_
  refine x_if_eq (tgt := 24) hX dX12_ends_17 (by decide) rfl (fun hc => ?_) (fun hc => ?_)
  · replace h := (if_pos hc).symm.trans h
    cases h
    exact x_vret hX dX12_ends_24 rfl
  · replace h := (if_neg hc).symm.trans h
    refine x_aloadn hX dX12_ends_20 rfl ?_
    obtain ⟨M_4, er_3, h⟩ := cl1_of h
    refine x_callVv (t := 11) (As := []) (rest := []) hX dX12_ends_21 (c_X12_next (gk hX) (gl hX) hs M _ er_3) kX12_next vX12_next w_2272 (st139 hs) rfl rfl rfl rfl (Nat.le_of_ble_eq_true rfl) z0 ?_
    cases h
    exact x_vret hX dX12_ends_24 rfl
set_option maxRecDepth 100000 in
set_option maxHeartbeats 4000000 in
theorem c_X12_ends {l : Launch} {G : Gx} (hG : GOK G) (hl : l.stackTraces = false) (hs : SOK G)  (M : Mem) (Mr : Mem) (h : f_X12_ends M = some Mr) : Cn l G mX12_ends 4 [vr G 139] M none Mr := by
  refine Cn_of2 (ls := [some (vr G 139)]) hG hl kX12_ends rfl (Nat.le_of_ble_eq_true rfl) rfl rfl rfl rfl rfl (fun X eG el hX => ?_)
  subst eG; subst el
  unfold f_X12_ends at h
  refine x_aloadn hX dX12_ends_0 rfl ?_
  refine x_getI hX dX12_ends_1 fl_X12_371 rfl (st139 hs) ?_
  refine x_iconst hX dX12_ends_4 ?_
  refine x_icmp_eq (tgt := 13) hX dX12_ends_5 (by decide) rfl cw_3 (fun hc => ?_) (fun hc => ?_)
  · replace h := (if_pos hc).symm.trans h
    exact x_weak [true] rfl (tj_X12_ends_13 hX hs M Mr h)
  · replace h := (if_neg hc).symm.trans h
    refine x_aloadn hX dX12_ends_8 rfl ?_
    refine x_iconst hX dX12_ends_9 ?_
    obtain ⟨M_6, er_5, h⟩ := cl1_of h
    refine x_callVv (t := 11) (As := [vi 1]) (rest := []) hX dX12_ends_10 (c_X12_fails (gk hX) (gl hX) hs 1 M _ er_5) kX12_fails vX12_fails w_2297 (st139 hs) rfl rfl rfl rfl (Nat.le_of_ble_eq_true rfl) z0 ?_
    exact x_weak [true] rfl (tj_X12_ends_13 hX hs M_6 Mr h)
set_option maxRecDepth 100000 in
set_option maxHeartbeats 4000000 in
theorem c_X12_readPolicy {l : Launch} {G : Gx} (hG : GOK G) (hl : l.stackTraces = false) (hs : SOK G)  (M : Mem) (Mr : Mem) (h : f_X12_readPolicy M = some Mr) : Cn l G mX12_readPolicy 4 [vr G 139] M none Mr := by
  refine Cn_of2 (ls := [some (vr G 139), none]) hG hl kX12_readPolicy rfl (Nat.le_of_ble_eq_true rfl) rfl rfl rfl rfl rfl (fun X eG el hX => ?_)
  subst eG; subst el
  unfold f_X12_readPolicy at h
  refine x_aloadn hX dX12_readPolicy_0 rfl ?_
  obtain ⟨M_2, er_1, h⟩ := cl1_of h
  refine x_callVv (t := 11) (As := []) (rest := []) hX dX12_readPolicy_1 (c_X12_next (gk hX) (gl hX) hs M _ er_1) kX12_next vX12_next w_2272 (st139 hs) rfl rfl rfl rfl (Nat.le_of_ble_eq_true rfl) z0 ?_
  refine x_aloadn hX dX12_readPolicy_4 rfl ?_
  obtain ⟨r_3, er_3, h⟩ := cl1_of h
  refine x_callVi (t := 11) (As := []) (rest := []) hX dX12_readPolicy_5 (c_X12_wordHere (gk hX) (gl hX) hs M_2 _ er_3) kX12_wordHere vX12_wordHere w_2293 (st139 hs) rfl rfl rfl rfl (Nat.le_of_ble_eq_true rfl) z0 ?_
  refine x_bipush hX dX12_readPolicy_8 bp_8 ?_
  refine x_isub hX dX12_readPolicy_10 ?_
  obtain ⟨x1_5, ex1_5, h⟩ := bnd_of h
  refine x_istoren (ls' := [some (vr (xG X) 139), some (vi x1_5)]) hX dX12_readPolicy_11 rfl ex1_5 rfl ?_
  refine x_iloadn hX dX12_readPolicy_12 rfl ?_
  refine x_if_ge (tgt := 22) hX dX12_readPolicy_13 (by decide) rfl (fun hc => ?_) (fun hc => ?_)
  · replace h := (if_pos hc).symm.trans h
    refine x_aloadn hX dX12_readPolicy_16 rfl ?_
    refine x_iconst hX dX12_readPolicy_17 ?_
    obtain ⟨M_7, er_6, h⟩ := cl1_of h
    refine x_callVv (t := 11) (As := [vi 1]) (rest := []) hX dX12_readPolicy_18 (c_X12_fails (gk hX) (gl hX) hs 1 M_2 _ er_6) kX12_fails vX12_fails w_2297 (st139 hs) rfl rfl rfl rfl (Nat.le_of_ble_eq_true rfl) z0 ?_
    cases h
    exact x_vret hX dX12_readPolicy_21 rfl
  · replace h := (if_neg hc).symm.trans h
    refine x_aloadn hX dX12_readPolicy_22 rfl ?_
    refine x_getRj (j := 140) hX dX12_readPolicy_23 fl_X12_7 rfl (st139 hs) rfl ?_
    refine x_bipush hX dX12_readPolicy_26 bp_6 ?_
    refine x_iloadn hX dX12_readPolicy_28 rfl ?_
    obtain ⟨M_8, eM_8, h⟩ := bnd_of h
    refine x_iast hX dX12_readPolicy_29 (st140 hs) inc_6_469 ixc_6 (x_meq eM_8 ?_)
    refine x_aloadn hX dX12_readPolicy_30 rfl ?_
    obtain ⟨M_10, er_9, h⟩ := cl1_of h
    refine x_callVv (t := 11) (As := []) (rest := []) hX dX12_readPolicy_31 (c_X12_next (gk hX) (gl hX) hs M_8 _ er_9) kX12_next vX12_next w_2272 (st139 hs) rfl rfl rfl rfl (Nat.le_of_ble_eq_true rfl) z0 ?_
    cases h
    exact x_vret hX dX12_readPolicy_34 rfl
