-- written by wip/gen/emit.py: X12_seedOf, X12_nextOf, X12_addBatch, X12_batchWeight, X12_routes, X12_takes, X12_routeLength, X12_stopsByGaps, X12_stopsCombined, X12_readHall, X12_readItem, X12_readLine
set_option maxRecDepth 100000 in
set_option maxHeartbeats 4000000 in
theorem tj_X12_seedOf_45_5 {X : Cxt} (hX : Gd X RX12 cX12_seedOf 5 (some .int) 5) (hs : SOK (xG X))   (x1 : Int) (x2 : Int) (x3 : Int) (x4 : Int) (M : Mem) {Q : State → Prop} (o : (Int × Int) ⊕ ((Int) ⊕ (Int))) (h : j_X12_seedOf_45_5 x1 x2 x3 x4 M = some o) (hP : ∀ y, o = .inl y → V X 0 0 Q 5 [some (vr (xG X) 139), some (vi x1), some (vi x2), some (vi y.1), some (vi y.2)] [] M) (hE : ∀ z, o = .inr (.inl z) → V X 0 0 Q 51 [none, none, none, some (vi z), none] [] M) (hR : ∀ q, o = .inr (.inr q) → Q = Qn X (some (vi q)) M) : V X 0 0 Q 45 [some (vr (xG X) 139), some (vi x1), some (vi x2), some (vi x3), some (vi x4)] [] M := by
  unfold j_X12_seedOf_45_5 at h
  obtain ⟨x4_3, ex4_3, h⟩ := bnd_of h
  refine x_iinc (ls' := [some (vr (xG X) 139), some (vi x1), some (vi x2), some (vi x3), some (vi x4_3)]) hX dX12_seedOf_45 rfl rfl ex4_3 rfl ?_
  refine x_goto (tgt := 5) hX dX12_seedOf_48 (by decide) ?_
  exact x_weak [true, true, true, true, true] rfl (hP (x3, x4_3) (Option.some.inj h).symm)
set_option maxRecDepth 100000 in
set_option maxHeartbeats 4000000 in
theorem tj_X12_seedOf_42_5 {X : Cxt} (hX : Gd X RX12 cX12_seedOf 5 (some .int) 5) (hs : SOK (xG X))   (x1 : Int) (x2 : Int) (x4 : Int) (M : Mem) {Q : State → Prop} (o : (Int × Int) ⊕ ((Int) ⊕ (Int))) (h : j_X12_seedOf_42_5 x1 x2 x4 M = some o) (hP : ∀ y, o = .inl y → V X 0 0 Q 5 [some (vr (xG X) 139), some (vi x1), some (vi x2), some (vi y.1), some (vi y.2)] [] M) (hE : ∀ z, o = .inr (.inl z) → V X 0 0 Q 51 [none, none, none, some (vi z), none] [] M) (hR : ∀ q, o = .inr (.inr q) → Q = Qn X (some (vi q)) M) : V X 0 0 Q 42 [some (vr (xG X) 139), some (vi x1), some (vi x2), none, some (vi x4)] [] M := by
  unfold j_X12_seedOf_42_5 at h
  refine x_iload hX dX12_seedOf_42 rfl ?_
  refine x_istoren (ls' := [some (vr (xG X) 139), some (vi x1), some (vi x2), some (vi x4), some (vi x4)]) hX dX12_seedOf_44 rfl rfl rfl ?_
  exact x_weak [true, true, true, true, true] rfl (tj_X12_seedOf_45_5 hX hs x1 x2 x4 x4 M o h hP hE hR)
set_option maxRecDepth 100000 in
set_option maxHeartbeats 4000000 in
theorem ts_X12_seedOf_5 {X : Cxt} (hX : Gd X RX12 cX12_seedOf 5 (some .int) 5) (hs : SOK (xG X))  (x1 : Int) (x2 : Int) (M : Mem) (x3 : Int) (x4 : Int) {Q : State → Prop} (o : (Int × Int) ⊕ ((Int) ⊕ (Int))) (h : s_X12_seedOf_5 x1 x2 M x3 x4 = some o) (hP : ∀ y, o = .inl y → V X 0 0 Q 5 [some (vr (xG X) 139), some (vi x1), some (vi x2), some (vi y.1), some (vi y.2)] [] M) (hE : ∀ z, o = .inr (.inl z) → V X 0 0 Q 51 [none, none, none, some (vi z), none] [] M) (hR : ∀ q, o = .inr (.inr q) → Q = Qn X (some (vi q)) M) : V X 0 0 Q 5 [some (vr (xG X) 139), some (vi x1), some (vi x2), some (vi x3), some (vi x4)] [] M := by
  unfold s_X12_seedOf_5 at h
  refine x_iload hX dX12_seedOf_5 rfl ?_
  refine x_bipush hX dX12_seedOf_7 bp_16 ?_
  refine x_icmp_ge (tgt := 51) hX dX12_seedOf_9 (by decide) rfl cw_16 (fun hc => ?_) (fun hc => ?_)
  · replace h := (if_pos hc).symm.trans h
    refine x_iloadn hX dX12_seedOf_12 rfl ?_
    refine x_iload hX dX12_seedOf_13 rfl ?_
    obtain ⟨r_1, er_1, h⟩ := cl1_of h
    refine x_callSi (As := [vi x1, vi x4]) (rest := []) hX dX12_seedOf_15 (c_X12_has (gk hX) (gl hX) x1 x4 M _ er_1) kX12_has sX12_has w_1868 rfl rfl rfl (Nat.le_of_ble_eq_true rfl) z0 ?_
    refine x_if_eq (tgt := 45) hX dX12_seedOf_18 (by decide) rfl (fun hc => ?_) (fun hc => ?_)
    · replace h := (if_pos hc).symm.trans h
      exact x_weak [true, true, true, true, true] rfl (tj_X12_seedOf_45_5 hX hs x1 x2 x3 x4 M o h hP hE hR)
    · replace h := (if_neg hc).symm.trans h
      refine x_iloadn hX dX12_seedOf_21 rfl ?_
      refine x_iconst hX dX12_seedOf_22 ?_
      refine x_icmp_eq (tgt := 42) hX dX12_seedOf_23 (by decide) rfl cw_m1 (fun hc => ?_) (fun hc => ?_)
      · replace h := (if_pos hc).symm.trans h
        exact x_weak [true, true, true, false, true] rfl (tj_X12_seedOf_42_5 hX hs x1 x2 x4 M o h hP hE hR)
      · replace h := (if_neg hc).symm.trans h
        refine x_aloadn hX dX12_seedOf_26 rfl ?_
        refine x_iload hX dX12_seedOf_27 rfl ?_
        refine x_iloadn hX dX12_seedOf_29 rfl ?_
        obtain ⟨r_4, er_4, h⟩ := cl1_of h
        refine x_callVi (t := 11) (As := [vi x4, vi x2]) (rest := []) hX dX12_seedOf_30 (c_X12_seedBy (gk hX) (gl hX) hs x4 x2 M _ er_4) kX12_seedBy vX12_seedBy w_1892 (st139 hs) rfl rfl rfl rfl (Nat.le_of_ble_eq_true rfl) z0 ?_
        refine x_aloadn hX dX12_seedOf_33 rfl ?_
        refine x_iloadn hX dX12_seedOf_34 rfl ?_
        refine x_iloadn hX dX12_seedOf_35 rfl ?_
        obtain ⟨r_6, er_6, h⟩ := cl1_of h
        refine x_callVi (t := 11) (As := [vi x3, vi x2]) (rest := [vi r_4]) hX dX12_seedOf_36 (c_X12_seedBy (gk hX) (gl hX) hs x3 x2 M _ er_6) kX12_seedBy vX12_seedBy w_1892 (st139 hs) rfl rfl rfl rfl (Nat.le_of_ble_eq_true rfl) z0 ?_
        refine x_icmp_le (tgt := 45) hX dX12_seedOf_39 (by decide) rfl rfl (fun hc => ?_) (fun hc => ?_)
        · replace h := (if_pos hc).symm.trans h
          exact x_weak [true, true, true, false, true] rfl (tj_X12_seedOf_42_5 hX hs x1 x2 x4 M o h hP hE hR)
        · replace h := (if_neg hc).symm.trans h
          exact x_weak [true, true, true, true, true] rfl (tj_X12_seedOf_45_5 hX hs x1 x2 x3 x4 M o h hP hE hR)
  · replace h := (if_neg hc).symm.trans h
    exact x_weak [false, false, false, true, false] rfl (hE x3 (Option.some.inj h).symm)
set_option maxRecDepth 100000 in
set_option maxHeartbeats 4000000 in
theorem c_X12_seedOf {l : Launch} {G : Gx} (hG : GOK G) (hl : l.stackTraces = false) (hs : SOK G)  (x1 : Int) (x2 : Int) (M : Mem) (r : Int) (h : f_X12_seedOf x1 x2 M = some r) : Cn l G mX12_seedOf 5 [vr G 139, vi x1, vi x2] M (some (vi r)) M := by
  refine Cn_of2 (ls := [some (vr G 139), some (vi x1), some (vi x2), none, none]) hG hl kX12_seedOf rfl (Nat.le_of_ble_eq_true rfl) rfl rfl rfl rfl rfl (fun X eG el hX => ?_)
  subst eG; subst el
  unfold f_X12_seedOf at h
  refine x_iconst hX dX12_seedOf_0 ?_
  refine x_istoren (ls' := [some (vr (xG X) 139), some (vi x1), some (vi x2), some (vi (-1)), none]) hX dX12_seedOf_1 rfl rfl rfl ?_
  refine x_iconst hX dX12_seedOf_2 ?_
  refine x_istore (ls' := [some (vr (xG X) 139), some (vi x1), some (vi x2), some (vi (-1)), some (vi 0)]) hX dX12_seedOf_3 rfl rfl rfl ?_
  refine x_weak (ls' := [some (vr (xG X) 139), some (vi x1), some (vi x2), some (vi (-1)), some (vi 0)]) [true, true, true, true, true] rfl ?_
  refine lp_use (x := ((-1), 0)) (P := fun x => V X 0 0 (Qn X (some (vi r)) M) 5 [some (vr (xG X) 139), some (vi x1), some (vi x2), some (vi x.1), some (vi x.2)] [] M) (PE := fun z_8 => V X 0 0 (Qn X (some (vi r)) M) 51 [none, none, none, some (vi z_8), none] [] M) (PR := fun q => (Qn X (some (vi r)) M) = Qn X (some (vi q)) M) h (fun x o hh hP hE hR => ts_X12_seedOf_5 hX hs x1 x2 M x.1 x.2 o hh hP hE hR) (fun z_8 h => ?_) (fun q h => ?_)
  · show V X 0 0 (Qn X (some (vi r)) M) 51 [none, none, none, some (vi z_8), none] [] M
    refine x_iloadn hX dX12_seedOf_51 rfl ?_
    cases h
    exact x_iret hX dX12_seedOf_52 rfl
  · cases h; rfl
set_option maxRecDepth 100000 in
set_option maxHeartbeats 4000000 in
theorem tj_X12_nextOf_116_25 {X : Cxt} (hX : Gd X RX12 cX12_nextOf 10 (some .int) 5) (hs : SOK (xG X))   (x1 : Int) (x4 : Int) (x5 : Int) (x6 : Int) (x7 : Int) (x8 : Int) (M : Mem) {Q : State → Prop} (o : (Int × Int × Int) ⊕ ((Int) ⊕ (Int))) (h : j_X12_nextOf_116_25 x1 x4 x5 x6 x7 x8 M = some o) (hP : ∀ y, o = .inl y → V X 0 0 Q 25 [some (vr (xG X) 139), some (vi x1), none, none, some (vi y.1), some (vi y.2.1), some (vi x6), some (vi x7), some (vi y.2.2), none] [] M) (hE : ∀ z, o = .inr (.inl z) → V X 0 0 Q 122 [none, none, none, none, some (vi z), none, none, none, none, none] [] M) (hR : ∀ q, o = .inr (.inr q) → Q = Qn X (some (vi q)) M) : V X 0 0 Q 116 [some (vr (xG X) 139), some (vi x1), none, none, some (vi x4), some (vi x5), some (vi x6), some (vi x7), some (vi x8), none] [] M := by
  unfold j_X12_nextOf_116_25 at h
  obtain ⟨x8_8, ex8_8, h⟩ := bnd_of h
  refine x_iinc (ls' := [some (vr (xG X) 139), some (vi x1), none, none, some (vi x4), some (vi x5), some (vi x6), some (vi x7), some (vi x8_8), none]) hX dX12_nextOf_116 rfl rfl ex8_8 rfl ?_
  refine x_goto (tgt := 25) hX dX12_nextOf_119 (by decide) ?_
  exact x_weak [true, true, false, false, true, true, true, true, true, false] rfl (hP (x4, x5, x8_8) (Option.some.inj h).symm)
set_option maxRecDepth 100000 in
set_option maxHeartbeats 4000000 in
theorem tj_X12_nextOf_108_25 {X : Cxt} (hX : Gd X RX12 cX12_nextOf 10 (some .int) 5) (hs : SOK (xG X))   (x1 : Int) (x6 : Int) (x7 : Int) (x8 : Int) (x9 : Int) (M : Mem) {Q : State → Prop} (o : (Int × Int × Int) ⊕ ((Int) ⊕ (Int))) (h : j_X12_nextOf_108_25 x1 x6 x7 x8 x9 M = some o) (hP : ∀ y, o = .inl y → V X 0 0 Q 25 [some (vr (xG X) 139), some (vi x1), none, none, some (vi y.1), some (vi y.2.1), some (vi x6), some (vi x7), some (vi y.2.2), none] [] M) (hE : ∀ z, o = .inr (.inl z) → V X 0 0 Q 122 [none, none, none, none, some (vi z), none, none, none, none, none] [] M) (hR : ∀ q, o = .inr (.inr q) → Q = Qn X (some (vi q)) M) : V X 0 0 Q 108 [some (vr (xG X) 139), some (vi x1), none, none, none, none, some (vi x6), some (vi x7), some (vi x8), some (vi x9)] [] M := by
  unfold j_X12_nextOf_108_25 at h
  refine x_iload hX dX12_nextOf_108 rfl ?_
  refine x_istore (ls' := [some (vr (xG X) 139), some (vi x1), none, none, some (vi x8), none, some (vi x6), some (vi x7), some (vi x8), some (vi x9)]) hX dX12_nextOf_110 rfl rfl rfl ?_
  refine x_iload hX dX12_nextOf_112 rfl ?_
  refine x_istore (ls' := [some (vr (xG X) 139), some (vi x1), none, none, some (vi x8), some (vi x9), some (vi x6), some (vi x7), some (vi x8), some (vi x9)]) hX dX12_nextOf_114 rfl rfl rfl ?_
  exact x_weak [true, true, false, false, true, true, true, true, true, false] rfl (tj_X12_nextOf_116_25 hX hs x1 x8 x9 x6 x7 x8 M o h hP hE hR)
set_option maxRecDepth 100000 in
set_option maxHeartbeats 4000000 in
theorem ts_X12_nextOf_25 {X : Cxt} (hX : Gd X RX12 cX12_nextOf 10 (some .int) 5) (hs : SOK (xG X))  (x1 : Int) (x6 : Int) (x7 : Int) (M : Mem) (x4 : Int) (x5 : Int) (x8 : Int) {Q : State → Prop} (o : (Int × Int × Int) ⊕ ((Int) ⊕ (Int))) (h : s_X12_nextOf_25 x1 x6 x7 M x4 x5 x8 = some o) (hP : ∀ y, o = .inl y → V X 0 0 Q 25 [some (vr (xG X) 139), some (vi x1), none, none, some (vi y.1), some (vi y.2.1), some (vi x6), some (vi x7), some (vi y.2.2), none] [] M) (hE : ∀ z, o = .inr (.inl z) → V X 0 0 Q 122 [none, none, none, none, some (vi z), none, none, none, none, none] [] M) (hR : ∀ q, o = .inr (.inr q) → Q = Qn X (some (vi q)) M) : V X 0 0 Q 25 [some (vr (xG X) 139), some (vi x1), none, none, some (vi x4), some (vi x5), some (vi x6), some (vi x7), some (vi x8), none] [] M := by
  unfold s_X12_nextOf_25 at h
  refine x_iload hX dX12_nextOf_25 rfl ?_
  refine x_bipush hX dX12_nextOf_27 bp_16 ?_
  refine x_icmp_ge (tgt := 122) hX dX12_nextOf_29 (by decide) rfl cw_16 (fun hc => ?_) (fun hc => ?_)
  · replace h := (if_pos hc).symm.trans h
    refine x_iloadn hX dX12_nextOf_32 rfl ?_
    refine x_iload hX dX12_nextOf_33 rfl ?_
    obtain ⟨r_6, er_6, h⟩ := cl1_of h
    refine x_callSi (As := [vi x1, vi x8]) (rest := []) hX dX12_nextOf_35 (c_X12_has (gk hX) (gl hX) x1 x8 M _ er_6) kX12_has sX12_has w_1868 rfl rfl rfl (Nat.le_of_ble_eq_true rfl) z0 ?_
    refine x_if_eq (tgt := 116) hX dX12_nextOf_38 (by decide) rfl (fun hc => ?_) (fun hc => ?_)
    · replace h := (if_pos hc).symm.trans h
      exact x_weak [true, true, false, false, true, true, true, true, true, false] rfl (tj_X12_nextOf_116_25 hX hs x1 x4 x5 x6 x7 x8 M o h hP hE hR)
    · replace h := (if_neg hc).symm.trans h
      refine x_aloadn hX dX12_nextOf_41 rfl ?_
      refine x_iload hX dX12_nextOf_42 rfl ?_
      obtain ⟨r_9, er_9, h⟩ := cl1_of h
      refine x_callVi (t := 11) (As := [vi x8]) (rest := []) hX dX12_nextOf_44 (c_X12_weightOf (gk hX) (gl hX) hs x8 M _ er_9) kX12_weightOf vX12_weightOf w_1844 (st139 hs) rfl rfl rfl rfl (Nat.le_of_ble_eq_true rfl) z0 ?_
      refine x_iload hX dX12_nextOf_47 rfl ?_
      refine x_icmp_le (tgt := 55) hX dX12_nextOf_49 (by decide) rfl rfl (fun hc => ?_) (fun hc => ?_)
      · replace h := (if_pos hc).symm.trans h
        refine x_goto (tgt := 116) hX dX12_nextOf_52 (by decide) ?_
        exact x_weak [true, true, false, false, true, true, true, true, true, false] rfl (tj_X12_nextOf_116_25 hX hs x1 x4 x5 x6 x7 x8 M o h hP hE hR)
      · replace h := (if_neg hc).symm.trans h
        refine x_aloadn hX dX12_nextOf_55 rfl ?_
        refine x_iload hX dX12_nextOf_56 rfl ?_
        obtain ⟨r_11, er_11, h⟩ := cl1_of h
        refine x_callVi (t := 11) (As := [vi x8]) (rest := []) hX dX12_nextOf_58 (c_X12_aislesOf (gk hX) (gl hX) hs x8 M _ er_11) kX12_aislesOf vX12_aislesOf w_1852 (st139 hs) rfl rfl rfl rfl (Nat.le_of_ble_eq_true rfl) z0 ?_
        refine x_iload hX dX12_nextOf_61 rfl ?_
        refine x_iconst hX dX12_nextOf_63 ?_
        refine x_ixor hX dX12_nextOf_64 ?_
        refine x_iand hX dX12_nextOf_65 ?_
        obtain ⟨r_13, er_13, h⟩ := cl1_of h
        refine x_callSi (As := [vi (i_and r_11 (i_xor x7 (-1)))]) (rest := []) hX dX12_nextOf_66 (c_X12_ones (gk hX) (gl hX) (i_and r_11 (i_xor x7 (-1))) M _ er_13) kX12_ones sX12_ones w_1896 rfl rfl rfl (Nat.le_of_ble_eq_true rfl) z0 ?_
        refine x_istore (ls' := [some (vr (xG X) 139), some (vi x1), none, none, some (vi x4), some (vi x5), some (vi x6), some (vi x7), some (vi x8), some (vi r_13)]) hX dX12_nextOf_69 rfl rfl rfl ?_
        refine x_iload hX dX12_nextOf_71 rfl ?_
        refine x_iconst hX dX12_nextOf_73 ?_
        refine x_icmp_eq (tgt := 108) hX dX12_nextOf_74 (by decide) rfl cw_m1 (fun hc => ?_) (fun hc => ?_)
        · replace h := (if_pos hc).symm.trans h
          exact x_weak [true, true, false, false, false, false, true, true, true, true] rfl (tj_X12_nextOf_108_25 hX hs x1 x6 x7 x8 r_13 M o h hP hE hR)
        · replace h := (if_neg hc).symm.trans h
          refine x_iload hX dX12_nextOf_77 rfl ?_
          refine x_iload hX dX12_nextOf_79 rfl ?_
          refine x_icmp_lt (tgt := 108) hX dX12_nextOf_81 (by decide) rfl rfl (fun hc => ?_) (fun hc => ?_)
          · replace h := (if_pos hc).symm.trans h
            exact x_weak [true, true, false, false, false, false, true, true, true, true] rfl (tj_X12_nextOf_108_25 hX hs x1 x6 x7 x8 r_13 M o h hP hE hR)
          · replace h := (if_neg hc).symm.trans h
            refine x_iload hX dX12_nextOf_84 rfl ?_
            refine x_iload hX dX12_nextOf_86 rfl ?_
            refine x_icmp_ne (tgt := 116) hX dX12_nextOf_88 (by decide) rfl rfl (fun hc => ?_) (fun hc => ?_)
            · replace h := (if_pos hc).symm.trans h
              refine x_aloadn hX dX12_nextOf_91 rfl ?_
              refine x_iload hX dX12_nextOf_92 rfl ?_
              refine x_iconst hX dX12_nextOf_94 ?_
              obtain ⟨r_15, er_15, h⟩ := cl1_of h
              refine x_callVi (t := 11) (As := [vi x8, vi 0]) (rest := []) hX dX12_nextOf_95 (c_X12_ofOrder (gk hX) (gl hX) hs x8 0 M _ er_15) kX12_ofOrder vX12_ofOrder w_1797 (st139 hs) rfl rfl rfl rfl (Nat.le_of_ble_eq_true rfl) z0 ?_
              refine x_aloadn hX dX12_nextOf_98 rfl ?_
              refine x_iload hX dX12_nextOf_99 rfl ?_
              refine x_iconst hX dX12_nextOf_101 ?_
              obtain ⟨r_17, er_17, h⟩ := cl1_of h
              refine x_callVi (t := 11) (As := [vi x4, vi 0]) (rest := [vi r_15]) hX dX12_nextOf_102 (c_X12_ofOrder (gk hX) (gl hX) hs x4 0 M _ er_17) kX12_ofOrder vX12_ofOrder w_1797 (st139 hs) rfl rfl rfl rfl (Nat.le_of_ble_eq_true rfl) z0 ?_
              refine x_icmp_ge (tgt := 116) hX dX12_nextOf_105 (by decide) rfl rfl (fun hc => ?_) (fun hc => ?_)
              · replace h := (if_pos hc).symm.trans h
                exact x_weak [true, true, false, false, false, false, true, true, true, true] rfl (tj_X12_nextOf_108_25 hX hs x1 x6 x7 x8 r_13 M o h hP hE hR)
              · replace h := (if_neg hc).symm.trans h
                exact x_weak [true, true, false, false, true, true, true, true, true, false] rfl (tj_X12_nextOf_116_25 hX hs x1 x4 x5 x6 x7 x8 M o h hP hE hR)
            · replace h := (if_neg hc).symm.trans h
              exact x_weak [true, true, false, false, true, true, true, true, true, false] rfl (tj_X12_nextOf_116_25 hX hs x1 x4 x5 x6 x7 x8 M o h hP hE hR)
  · replace h := (if_neg hc).symm.trans h
    exact x_weak [false, false, false, false, true, false, false, false, false, false] rfl (hE x4 (Option.some.inj h).symm)
set_option maxRecDepth 100000 in
set_option maxHeartbeats 4000000 in
theorem c_X12_nextOf {l : Launch} {G : Gx} (hG : GOK G) (hl : l.stackTraces = false) (hs : SOK G)  (x1 : Int) (x2 : Int) (x3 : Int) (M : Mem) (r : Int) (h : f_X12_nextOf x1 x2 x3 M = some r) : Cn l G mX12_nextOf 5 [vr G 139, vi x1, vi x2, vi x3] M (some (vi r)) M := by
  refine Cn_of2 (ls := [some (vr G 139), some (vi x1), some (vi x2), some (vi x3), none, none, none, none, none, none]) hG hl kX12_nextOf rfl (Nat.le_of_ble_eq_true rfl) rfl rfl rfl rfl rfl (fun X eG el hX => ?_)
  subst eG; subst el
  unfold f_X12_nextOf at h
  refine x_iconst hX dX12_nextOf_0 ?_
  refine x_istore (ls' := [some (vr (xG X) 139), some (vi x1), some (vi x2), some (vi x3), some (vi (-1)), none, none, none, none, none]) hX dX12_nextOf_1 rfl rfl rfl ?_
  refine x_iconst hX dX12_nextOf_3 ?_
  refine x_istore (ls' := [some (vr (xG X) 139), some (vi x1), some (vi x2), some (vi x3), some (vi (-1)), some (vi 0), none, none, none, none]) hX dX12_nextOf_4 rfl rfl rfl ?_
  refine x_iloadn hX dX12_nextOf_6 rfl ?_
  refine x_aloadn hX dX12_nextOf_7 rfl ?_
  refine x_iloadn hX dX12_nextOf_8 rfl ?_
  obtain ⟨r_1, er_1, h⟩ := cl1_of h
  refine x_callVi (t := 11) (As := [vi x2]) (rest := [vi x3]) hX dX12_nextOf_9 (c_X12_weightOfAll (gk hX) (gl hX) hs x2 M _ er_1) kX12_weightOfAll vX12_weightOfAll w_1903 (st139 hs) rfl rfl rfl rfl (Nat.le_of_ble_eq_true rfl) z0 ?_
  refine x_isub hX dX12_nextOf_12 ?_
  obtain ⟨x6_3, ex6_3, h⟩ := bnd_of h
  refine x_istore (ls' := [some (vr (xG X) 139), some (vi x1), some (vi x2), some (vi x3), some (vi (-1)), some (vi 0), some (vi x6_3), none, none, none]) hX dX12_nextOf_13 rfl ex6_3 rfl ?_
  refine x_aloadn hX dX12_nextOf_15 rfl ?_
  refine x_iloadn hX dX12_nextOf_16 rfl ?_
  obtain ⟨r_4, er_4, h⟩ := cl1_of h
  refine x_callVi (t := 11) (As := [vi x2]) (rest := []) hX dX12_nextOf_17 (c_X12_aislesOfAll (gk hX) (gl hX) hs x2 M _ er_4) kX12_aislesOfAll vX12_aislesOfAll w_1907 (st139 hs) rfl rfl rfl rfl (Nat.le_of_ble_eq_true rfl) z0 ?_
  refine x_istore (ls' := [some (vr (xG X) 139), some (vi x1), some (vi x2), some (vi x3), some (vi (-1)), some (vi 0), some (vi x6_3), some (vi r_4), none, none]) hX dX12_nextOf_20 rfl rfl rfl ?_
  refine x_iconst hX dX12_nextOf_22 ?_
  refine x_istore (ls' := [some (vr (xG X) 139), some (vi x1), some (vi x2), some (vi x3), some (vi (-1)), some (vi 0), some (vi x6_3), some (vi r_4), some (vi 0), none]) hX dX12_nextOf_23 rfl rfl rfl ?_
  refine x_weak (ls' := [some (vr (xG X) 139), some (vi x1), none, none, some (vi (-1)), some (vi 0), some (vi x6_3), some (vi r_4), some (vi 0), none]) [true, true, false, false, true, true, true, true, true, false] rfl ?_
  refine lp_use (x := ((-1), 0, 0)) (P := fun x => V X 0 0 (Qn X (some (vi r)) M) 25 [some (vr (xG X) 139), some (vi x1), none, none, some (vi x.1), some (vi x.2.1), some (vi x6_3), some (vi r_4), some (vi x.2.2), none] [] M) (PE := fun z_19 => V X 0 0 (Qn X (some (vi r)) M) 122 [none, none, none, none, some (vi z_19), none, none, none, none, none] [] M) (PR := fun q => (Qn X (some (vi r)) M) = Qn X (some (vi q)) M) h (fun x o hh hP hE hR => ts_X12_nextOf_25 hX hs x1 x6_3 r_4 M x.1 x.2.1 x.2.2 o hh hP hE hR) (fun z_19 h => ?_) (fun q h => ?_)
  · show V X 0 0 (Qn X (some (vi r)) M) 122 [none, none, none, none, some (vi z_19), none, none, none, none, none] [] M
    refine x_iload hX dX12_nextOf_122 rfl ?_
    cases h
    exact x_iret hX dX12_nextOf_124 rfl
  · cases h; rfl
set_option maxRecDepth 100000 in
set_option maxHeartbeats 4000000 in
theorem tj_X12_addBatch_47 {X : Cxt} (hX : Gd X RX12 cX12_addBatch 2 (some .int) 5) (hs : SOK (xG X))   (x1 : Int) (y1 : Int) (M : Mem) (r : Int) (Mr : Mem) (h : j_X12_addBatch_47 x1 y1 M = some (r, Mr)) : V X 0 0 (Qn X (some (vi r)) Mr) 47 [some (vr (xG X) 139), some (vi x1)] [vi y1, vr (xG X) 139] M := by
  unfold j_X12_addBatch_47 at h
  obtain ⟨M_3, eM_3, h⟩ := bnd_of h
  refine x_putI hX dX12_addBatch_47 fp_X12_70 rfl (st139 hs) (x_meq eM_3 ?_)
  refine x_aloadn hX dX12_addBatch_50 rfl ?_
  refine x_getI hX dX12_addBatch_51 fl_X12_70 rfl (st139 hs) ?_
  refine x_if_le (tgt := 61) hX dX12_addBatch_54 (by decide) rfl (fun hc => ?_) (fun hc => ?_)
  · replace h := (if_pos hc).symm.trans h
    refine x_iconst hX dX12_addBatch_57 ?_
    refine x_goto (tgt := 66) hX dX12_addBatch_58 (by decide) ?_
    cases h
    exact x_iret hX dX12_addBatch_66 rfl
  · replace h := (if_neg hc).symm.trans h
    refine x_aloadn hX dX12_addBatch_61 rfl ?_
    refine x_iloadn hX dX12_addBatch_62 rfl ?_
    obtain ⟨r_4, M_5, er_4, h⟩ := cl2_of h
    refine x_callVi (t := 11) (As := [vi x1]) (rest := []) hX dX12_addBatch_63 (c_X12_addsBatch (gk hX) (gl hX) hs x1 M_3 _ _ er_4) kX12_addsBatch vX12_addsBatch w_1911 (st139 hs) rfl rfl rfl rfl (Nat.le_of_ble_eq_true rfl) z0 ?_
    cases h
    exact x_iret hX dX12_addBatch_66 rfl
set_option maxRecDepth 100000 in
set_option maxHeartbeats 4000000 in
theorem tj_X12_addBatch_42 {X : Cxt} (hX : Gd X RX12 cX12_addBatch 2 (some .int) 5) (hs : SOK (xG X))   (x1 : Int) (M : Mem) (r : Int) (Mr : Mem) (h : j_X12_addBatch_42 x1 M = some (r, Mr)) : V X 0 0 (Qn X (some (vi r)) Mr) 42 [some (vr (xG X) 139), some (vi x1)] [vr (xG X) 139] M := by
  unfold j_X12_addBatch_42 at h
  refine x_iconst hX dX12_addBatch_42 ?_
  refine x_goto (tgt := 47) hX dX12_addBatch_43 (by decide) ?_
  exact x_weak [true, true] rfl (tj_X12_addBatch_47 hX hs x1 2 M r Mr h)
set_option maxRecDepth 100000 in
set_option maxHeartbeats 4000000 in
theorem c_X12_addBatch {l : Launch} {G : Gx} (hG : GOK G) (hl : l.stackTraces = false) (hs : SOK G)  (x1 : Int) (M : Mem) (r : Int) (Mr : Mem) (h : f_X12_addBatch x1 M = some (r, Mr)) : Cn l G mX12_addBatch 5 [vr G 139, vi x1] M (some (vi r)) Mr := by
  refine Cn_of2 (ls := [some (vr G 139), some (vi x1)]) hG hl kX12_addBatch rfl (Nat.le_of_ble_eq_true rfl) rfl rfl rfl rfl rfl (fun X eG el hX => ?_)
  subst eG; subst el
  unfold f_X12_addBatch at h
  refine x_aloadn hX dX12_addBatch_0 rfl ?_
  refine x_iloadn hX dX12_addBatch_1 rfl ?_
  refine x_iconst hX dX12_addBatch_2 ?_
  refine x_iconst hX dX12_addBatch_3 ?_
  refine x_aloadn hX dX12_addBatch_4 rfl ?_
  refine x_getRj (j := 140) hX dX12_addBatch_5 fl_X12_7 rfl (st139 hs) rfl ?_
  refine x_iconst hX dX12_addBatch_8 ?_
  refine x_iald hX dX12_addBatch_9 (st140 hs) inc_4_469 ixc_4 ?_
  refine x_ishl hX dX12_addBatch_10 ?_
  refine x_iconst hX dX12_addBatch_11 ?_
  refine x_isub hX dX12_addBatch_12 ?_
  obtain ⟨r_1, er_1, h⟩ := cl1_of h
  refine x_callSi (As := [vi x1, vi 1, vi ((i_shl 1 (M 140 4)) - 1)]) (rest := [vr (xG X) 139]) hX dX12_addBatch_13 (c_X12_in (gk hX) (gl hX) x1 1 ((i_shl 1 (M 140 4)) - 1) M _ er_1) kX12_in sX12_in w_1735 rfl rfl rfl (Nat.le_of_ble_eq_true rfl) z0 ?_
  refine x_if_ne (tgt := 23) hX dX12_addBatch_16 (by decide) rfl (fun hc => ?_) (fun hc => ?_)
  · replace h := (if_pos hc).symm.trans h
    refine x_iconst hX dX12_addBatch_19 ?_
    refine x_goto (tgt := 47) hX dX12_addBatch_20 (by decide) ?_
    exact x_weak [true, true] rfl (tj_X12_addBatch_47 hX hs x1 1 M r Mr h)
  · replace h := (if_neg hc).symm.trans h
    refine x_aloadn hX dX12_addBatch_23 rfl ?_
    refine x_iloadn hX dX12_addBatch_24 rfl ?_
    obtain ⟨r_6, er_6, h⟩ := cl1_of h
    refine x_callVi (t := 11) (As := [vi x1]) (rest := [vr (xG X) 139]) hX dX12_addBatch_25 (c_X12_canAll (gk hX) (gl hX) hs x1 M _ er_6) kX12_canAll vX12_canAll w_1923 (st139 hs) rfl rfl rfl rfl (Nat.le_of_ble_eq_true rfl) z0 ?_
    refine x_if_eq (tgt := 42) hX dX12_addBatch_28 (by decide) rfl (fun hc => ?_) (fun hc => ?_)
    · replace h := (if_pos hc).symm.trans h
      exact x_weak [true, true] rfl (tj_X12_addBatch_42 hX hs x1 M r Mr h)
    · replace h := (if_neg hc).symm.trans h
      refine x_aloadn hX dX12_addBatch_31 rfl ?_
      refine x_getRj (j := 140) hX dX12_addBatch_32 fl_X12_7 rfl (st139 hs) rfl ?_
      refine x_iconst hX dX12_addBatch_35 ?_
      refine x_iald hX dX12_addBatch_36 (st140 hs) inc_5_469 ixc_5 ?_
      refine x_bipush hX dX12_addBatch_37 bp_8 ?_
      refine x_icmp_ne (tgt := 46) hX dX12_addBatch_39 (by decide) rfl cw_8 (fun hc => ?_) (fun hc => ?_)
      · replace h := (if_pos hc).symm.trans h
        exact x_weak [true, true] rfl (tj_X12_addBatch_42 hX hs x1 M r Mr h)
      · replace h := (if_neg hc).symm.trans h
        refine x_iconst hX dX12_addBatch_46 ?_
        exact x_weak [true, true] rfl (tj_X12_addBatch_47 hX hs x1 0 M r Mr h)
set_option maxRecDepth 100000 in
set_option maxHeartbeats 4000000 in
theorem tj_X12_batchWeight_14 {X : Cxt} (hX : Gd X RX12 cX12_batchWeight 2 (some .int) 5) (hs : SOK (xG X))   (x1 : Int) (y1 : Int) (M : Mem) (r : Int) (Mr : Mem) (h : j_X12_batchWeight_14 x1 y1 M = some (r, Mr)) : V X 0 0 (Qn X (some (vi r)) Mr) 14 [some (vr (xG X) 139), some (vi x1)] [vi y1, vr (xG X) 139] M := by
  unfold j_X12_batchWeight_14 at h
  obtain ⟨M_3, eM_3, h⟩ := bnd_of h
  refine x_putI hX dX12_batchWeight_14 fp_X12_70 rfl (st139 hs) (x_meq eM_3 ?_)
  refine x_aloadn hX dX12_batchWeight_17 rfl ?_
  refine x_getI hX dX12_batchWeight_18 fl_X12_70 rfl (st139 hs) ?_
  refine x_if_le (tgt := 28) hX dX12_batchWeight_21 (by decide) rfl (fun hc => ?_) (fun hc => ?_)
  · replace h := (if_pos hc).symm.trans h
    refine x_iconst hX dX12_batchWeight_24 ?_
    refine x_goto (tgt := 42) hX dX12_batchWeight_25 (by decide) ?_
    cases h
    exact x_iret hX dX12_batchWeight_42 rfl
  · replace h := (if_neg hc).symm.trans h
    refine x_aloadn hX dX12_batchWeight_28 rfl ?_
    refine x_aloadn hX dX12_batchWeight_29 rfl ?_
    refine x_getRj (j := 140) hX dX12_batchWeight_30 fl_X12_7 rfl (st139 hs) rfl ?_
    refine x_sipush hX dX12_batchWeight_33 sp_461 ?_
    refine x_iloadn hX dX12_batchWeight_36 rfl ?_
    refine x_iadd hX dX12_batchWeight_37 ?_
    obtain ⟨b_4, h⟩ := gi_of h
    refine x_iald hX dX12_batchWeight_38 (st140 hs) b_4 rfl ?_
    obtain ⟨r_5, er_5, h⟩ := cl1_of h
    refine x_callVi (t := 11) (As := [vi (M_3 140 (ix (461 + x1)))]) (rest := []) hX dX12_batchWeight_39 (c_X12_weightOfAll (gk hX) (gl hX) hs (M_3 140 (ix (461 + x1))) M_3 _ er_5) kX12_weightOfAll vX12_weightOfAll w_1903 (st139 hs) rfl rfl rfl rfl (Nat.le_of_ble_eq_true rfl) z0 ?_
    cases h
    exact x_iret hX dX12_batchWeight_42 rfl
set_option maxRecDepth 100000 in
set_option maxHeartbeats 4000000 in
theorem c_X12_batchWeight {l : Launch} {G : Gx} (hG : GOK G) (hl : l.stackTraces = false) (hs : SOK G)  (x1 : Int) (M : Mem) (r : Int) (Mr : Mem) (h : f_X12_batchWeight x1 M = some (r, Mr)) : Cn l G mX12_batchWeight 5 [vr G 139, vi x1] M (some (vi r)) Mr := by
  refine Cn_of2 (ls := [some (vr G 139), some (vi x1)]) hG hl kX12_batchWeight rfl (Nat.le_of_ble_eq_true rfl) rfl rfl rfl rfl rfl (fun X eG el hX => ?_)
  subst eG; subst el
  unfold f_X12_batchWeight at h
  refine x_aloadn hX dX12_batchWeight_0 rfl ?_
  refine x_aloadn hX dX12_batchWeight_1 rfl ?_
  refine x_iloadn hX dX12_batchWeight_2 rfl ?_
  obtain ⟨r_1, er_1, h⟩ := cl1_of h
  refine x_callVi (t := 11) (As := [vi x1]) (rest := [vr (xG X) 139]) hX dX12_batchWeight_3 (c_X12_isBatch (gk hX) (gl hX) hs x1 M _ er_1) kX12_isBatch vX12_isBatch w_1931 (st139 hs) rfl rfl rfl rfl (Nat.le_of_ble_eq_true rfl) z0 ?_
  refine x_if_eq (tgt := 13) hX dX12_batchWeight_6 (by decide) rfl (fun hc => ?_) (fun hc => ?_)
  · replace h := (if_pos hc).symm.trans h
    refine x_iconst hX dX12_batchWeight_13 ?_
    exact x_weak [true, true] rfl (tj_X12_batchWeight_14 hX hs x1 1 M r Mr h)
  · replace h := (if_neg hc).symm.trans h
    refine x_iconst hX dX12_batchWeight_9 ?_
    refine x_goto (tgt := 14) hX dX12_batchWeight_10 (by decide) ?_
    exact x_weak [true, true] rfl (tj_X12_batchWeight_14 hX hs x1 0 M r Mr h)
set_option maxRecDepth 100000 in
set_option maxHeartbeats 4000000 in
theorem ts_X12_routes_10 {X : Cxt} (hX : Gd X RX12 cX12_routes 5 (some .int) 5) (hs : SOK (xG X))  (x2 : Int) (x3 : Int) (x4 : Int) (M : Mem) {Q : State → Prop} (o : (Int × Int × Mem) ⊕ ((Int × Mem) ⊕ (Int × Mem))) (h : s_X12_routes_10 x2 x3 x4 M = some o) (hP : ∀ y, o = .inl y → V X 0 0 Q 10 [some (vr (xG X) 139), none, some (vi x2), some (vi y.1), some (vi y.2.1)] [] y.2.2) (hE : ∀ z, o = .inr (.inl z) → V X 0 0 Q 35 [none, none, none, some (vi z.1), none] [] z.2) (hR : ∀ q, o = .inr (.inr q) → Q = Qn X (some (vi q.1)) q.2) : V X 0 0 Q 10 [some (vr (xG X) 139), none, some (vi x2), some (vi x3), some (vi x4)] [] M := by
  unfold s_X12_routes_10 at h
  refine x_iload hX dX12_routes_10 rfl ?_
  refine x_aloadn hX dX12_routes_12 rfl ?_
  obtain ⟨r_3, er_3, h⟩ := cl1_of h
  refine x_callVi (t := 11) (As := []) (rest := [vi x4]) hX dX12_routes_13 (c_X12_zones (gk hX) (gl hX) hs M _ er_3) kX12_zones vX12_zones w_1971 (st139 hs) rfl rfl rfl rfl (Nat.le_of_ble_eq_true rfl) z0 ?_
  refine x_icmp_ge (tgt := 35) hX dX12_routes_16 (by decide) rfl rfl (fun hc => ?_) (fun hc => ?_)
  · replace h := (if_pos hc).symm.trans h
    refine x_iloadn hX dX12_routes_19 rfl ?_
    refine x_aloadn hX dX12_routes_20 rfl ?_
    refine x_iload hX dX12_routes_21 rfl ?_
    refine x_iloadn hX dX12_routes_23 rfl ?_
    obtain ⟨r_5, M_6, er_5, h⟩ := cl2_of h
    refine x_callVi (t := 11) (As := [vi x4, vi x2]) (rest := [vi x3]) hX dX12_routes_24 (c_X12_routeOf (gk hX) (gl hX) hs x4 x2 M _ _ er_5) kX12_routeOf vX12_routeOf w_1975 (st139 hs) rfl rfl rfl rfl (Nat.le_of_ble_eq_true rfl) z0 ?_
    refine x_iadd hX dX12_routes_27 ?_
    obtain ⟨x3_7, ex3_7, h⟩ := bnd_of h
    refine x_istoren (ls' := [some (vr (xG X) 139), none, some (vi x2), some (vi x3_7), some (vi x4)]) hX dX12_routes_28 rfl ex3_7 rfl ?_
    obtain ⟨x4_8, ex4_8, h⟩ := bnd_of h
    refine x_iinc (ls' := [some (vr (xG X) 139), none, some (vi x2), some (vi x3_7), some (vi x4_8)]) hX dX12_routes_29 rfl rfl ex4_8 rfl ?_
    refine x_goto (tgt := 10) hX dX12_routes_32 (by decide) ?_
    exact x_weak [true, false, true, true, true] rfl (hP (x3_7, x4_8, M_6) (Option.some.inj h).symm)
  · replace h := (if_neg hc).symm.trans h
    exact x_weak [false, false, false, true, false] rfl (hE (x3, M) (Option.some.inj h).symm)
set_option maxRecDepth 100000 in
set_option maxHeartbeats 4000000 in
theorem c_X12_routes {l : Launch} {G : Gx} (hG : GOK G) (hl : l.stackTraces = false) (hs : SOK G)  (x1 : Int) (x2 : Int) (M : Mem) (r : Int) (Mr : Mem) (h : f_X12_routes x1 x2 M = some (r, Mr)) : Cn l G mX12_routes 5 [vr G 139, vi x1, vi x2] M (some (vi r)) Mr := by
  refine Cn_of2 (ls := [some (vr G 139), some (vi x1), some (vi x2), none, none]) hG hl kX12_routes rfl (Nat.le_of_ble_eq_true rfl) rfl rfl rfl rfl rfl (fun X eG el hX => ?_)
  subst eG; subst el
  unfold f_X12_routes at h
  refine x_aloadn hX dX12_routes_0 rfl ?_
  refine x_iloadn hX dX12_routes_1 rfl ?_
  obtain ⟨M_2, er_1, h⟩ := cl1_of h
  refine x_callVv (t := 11) (As := [vi x1]) (rest := []) hX dX12_routes_2 (c_X12_laysSpots (gk hX) (gl hX) hs x1 M _ er_1) kX12_laysSpots vX12_laysSpots w_1967 (st139 hs) rfl rfl rfl rfl (Nat.le_of_ble_eq_true rfl) z0 ?_
  refine x_iconst hX dX12_routes_5 ?_
  refine x_istoren (ls' := [some (vr (xG X) 139), some (vi x1), some (vi x2), some (vi 0), none]) hX dX12_routes_6 rfl rfl rfl ?_
  refine x_iconst hX dX12_routes_7 ?_
  refine x_istore (ls' := [some (vr (xG X) 139), some (vi x1), some (vi x2), some (vi 0), some (vi 0)]) hX dX12_routes_8 rfl rfl rfl ?_
  refine x_weak (ls' := [some (vr (xG X) 139), none, some (vi x2), some (vi 0), some (vi 0)]) [true, false, true, true, true] rfl ?_
  refine lp_use (x := (0, 0, M_2)) (P := fun x => V X 0 0 (Qn X (some (vi r)) Mr) 10 [some (vr (xG X) 139), none, some (vi x2), some (vi x.1), some (vi x.2.1)] [] x.2.2) (PE := fun z_9 => V X 0 0 (Qn X (some (vi r)) Mr) 35 [none, none, none, some (vi z_9.1), none] [] z_9.2) (PR := fun q => (Qn X (some (vi r)) Mr) = Qn X (some (vi q.1)) q.2) h (fun x o hh hP hE hR => ts_X12_routes_10 hX hs x2 x.1 x.2.1 x.2.2 o hh hP hE hR) (fun z_9 h => ?_) (fun q h => ?_)
  · show V X 0 0 (Qn X (some (vi r)) Mr) 35 [none, none, none, some (vi z_9.1), none] [] z_9.2
    refine x_iloadn hX dX12_routes_35 rfl ?_
    cases h
    exact x_iret hX dX12_routes_36 rfl
  · cases h; rfl
set_option maxRecDepth 100000 in
set_option maxHeartbeats 4000000 in
theorem c_X12_takes {l : Launch} {G : Gx} (hG : GOK G) (hl : l.stackTraces = false) (hs : SOK G)  (x1 : Int) (x2 : Int) (x3 : Int) (x4 : Int) (M : Mem) (r : Int) (h : f_X12_takes x1 x2 x3 x4 M = some r) : Cn l G mX12_takes 5 [vr G 139, vi x1, vi x2, vi x3, vi x4] M (some (vi r)) M := by
  refine Cn_of2 (ls := [some (vr G 139), some (vi x1), some (vi x2), some (vi x3), some (vi x4), none]) hG hl kX12_takes rfl (Nat.le_of_ble_eq_true rfl) rfl rfl rfl rfl rfl (fun X eG el hX => ?_)
  subst eG; subst el
  unfold f_X12_takes at h
  refine x_aloadn hX dX12_takes_0 rfl ?_
  refine x_getRj (j := 140) hX dX12_takes_1 fl_X12_7 rfl (st139 hs) rfl ?_
  refine x_sipush hX dX12_takes_4 sp_461 ?_
  refine x_iloadn hX dX12_takes_7 rfl ?_
  refine x_iadd hX dX12_takes_8 ?_
  obtain ⟨b_1, h⟩ := gi_of h
  refine x_iald hX dX12_takes_9 (st140 hs) b_1 rfl ?_
  obtain ⟨x5_2, ex5_2, h⟩ := bnd_of h
  refine x_istore (ls' := [some (vr (xG X) 139), some (vi x1), some (vi x2), some (vi x3), some (vi x4), some (vi x5_2)]) hX dX12_takes_10 rfl ex5_2 rfl ?_
  refine x_iload hX dX12_takes_12 rfl ?_
  obtain ⟨r_3, er_3, h⟩ := cl1_of h
  refine x_callSi (As := [vi x5_2]) (rest := []) hX dX12_takes_14 (c_X12_ones (gk hX) (gl hX) x5_2 M _ er_3) kX12_ones sX12_ones w_1896 rfl rfl rfl (Nat.le_of_ble_eq_true rfl) z0 ?_
  refine x_iloadn hX dX12_takes_17 rfl ?_
  refine x_icmp_ge (tgt := 42) hX dX12_takes_18 (by decide) rfl rfl (fun hc => ?_) (fun hc => ?_)
  · replace h := (if_pos hc).symm.trans h
    refine x_aloadn hX dX12_takes_21 rfl ?_
    refine x_iload hX dX12_takes_22 rfl ?_
    obtain ⟨r_5, er_5, h⟩ := cl1_of h
    refine x_callVi (t := 11) (As := [vi x5_2]) (rest := []) hX dX12_takes_24 (c_X12_weightOfAll (gk hX) (gl hX) hs x5_2 M _ er_5) kX12_weightOfAll vX12_weightOfAll w_1903 (st139 hs) rfl rfl rfl rfl (Nat.le_of_ble_eq_true rfl) z0 ?_
    refine x_aloadn hX dX12_takes_27 rfl ?_
    refine x_iloadn hX dX12_takes_28 rfl ?_
    obtain ⟨r_7, er_7, h⟩ := cl1_of h
    refine x_callVi (t := 11) (As := [vi x2]) (rest := [vi r_5]) hX dX12_takes_29 (c_X12_weightOf (gk hX) (gl hX) hs x2 M _ er_7) kX12_weightOf vX12_weightOf w_1844 (st139 hs) rfl rfl rfl rfl (Nat.le_of_ble_eq_true rfl) z0 ?_
    refine x_iadd hX dX12_takes_32 ?_
    refine x_iload hX dX12_takes_33 rfl ?_
    refine x_icmp_gt (tgt := 42) hX dX12_takes_35 (by decide) rfl rfl (fun hc => ?_) (fun hc => ?_)
    · replace h := (if_pos hc).symm.trans h
      refine x_iconst hX dX12_takes_42 ?_
      cases h
      exact x_zret hX dX12_takes_43 (Or.inl cw_0) rfl
    · replace h := (if_neg hc).symm.trans h
      refine x_iconst hX dX12_takes_38 ?_
      refine x_goto (tgt := 43) hX dX12_takes_39 (by decide) ?_
      cases h
      exact x_zret hX dX12_takes_43 (Or.inr cw_1) rfl
  · replace h := (if_neg hc).symm.trans h
    refine x_iconst hX dX12_takes_42 ?_
    cases h
    exact x_zret hX dX12_takes_43 (Or.inl cw_0) rfl
set_option maxRecDepth 100000 in
set_option maxHeartbeats 4000000 in
theorem tj_X12_routeLength_28 {X : Cxt} (hX : Gd X RX12 cX12_routeLength 4 (some .int) 5) (hs : SOK (xG X))   (x1 : Int) (x2 : Int) (x3 : Int) (y1 : Int) (M : Mem) (r : Int) (Mr : Mem) (h : j_X12_routeLength_28 x1 x2 x3 y1 M = some (r, Mr)) : V X 0 0 (Qn X (some (vi r)) Mr) 28 [some (vr (xG X) 139), some (vi x1), some (vi x2), some (vi x3)] [vi y1, vr (xG X) 139] M := by
  unfold j_X12_routeLength_28 at h
  obtain ⟨M_3, eM_3, h⟩ := bnd_of h
  refine x_putI hX dX12_routeLength_28 fp_X12_70 rfl (st139 hs) (x_meq eM_3 ?_)
  refine x_aloadn hX dX12_routeLength_31 rfl ?_
  refine x_getI hX dX12_routeLength_32 fl_X12_70 rfl (st139 hs) ?_
  refine x_if_le (tgt := 40) hX dX12_routeLength_35 (by decide) rfl (fun hc => ?_) (fun hc => ?_)
  · replace h := (if_pos hc).symm.trans h
    refine x_iconst hX dX12_routeLength_38 ?_
    cases h
    exact x_iret hX dX12_routeLength_39 rfl
  · replace h := (if_neg hc).symm.trans h
    refine x_aloadn hX dX12_routeLength_40 rfl ?_
    refine x_aloadn hX dX12_routeLength_41 rfl ?_
    refine x_getRj (j := 140) hX dX12_routeLength_42 fl_X12_7 rfl (st139 hs) rfl ?_
    refine x_sipush hX dX12_routeLength_45 sp_461 ?_
    refine x_iloadn hX dX12_routeLength_48 rfl ?_
    refine x_iadd hX dX12_routeLength_49 ?_
    obtain ⟨b_4, h⟩ := gi_of h
    refine x_iald hX dX12_routeLength_50 (st140 hs) b_4 rfl ?_
    obtain ⟨M_6, er_5, h⟩ := cl1_of h
    refine x_callVv (t := 11) (As := [vi (M_3 140 (ix (461 + x1)))]) (rest := []) hX dX12_routeLength_51 (c_X12_laysSpots (gk hX) (gl hX) hs (M_3 140 (ix (461 + x1))) M_3 _ er_5) kX12_laysSpots vX12_laysSpots w_1967 (st139 hs) rfl rfl rfl rfl (Nat.le_of_ble_eq_true rfl) z0 ?_
    refine x_aloadn hX dX12_routeLength_54 rfl ?_
    refine x_iloadn hX dX12_routeLength_55 rfl ?_
    refine x_iloadn hX dX12_routeLength_56 rfl ?_
    obtain ⟨r_7, M_8, er_7, h⟩ := cl2_of h
    refine x_callVi (t := 11) (As := [vi x2, vi x3]) (rest := []) hX dX12_routeLength_57 (c_X12_routeOf (gk hX) (gl hX) hs x2 x3 M_6 _ _ er_7) kX12_routeOf vX12_routeOf w_1975 (st139 hs) rfl rfl rfl rfl (Nat.le_of_ble_eq_true rfl) z0 ?_
    cases h
    exact x_iret hX dX12_routeLength_60 rfl
set_option maxRecDepth 100000 in
set_option maxHeartbeats 4000000 in
theorem c_X12_routeLength {l : Launch} {G : Gx} (hG : GOK G) (hl : l.stackTraces = false) (hs : SOK G)  (x1 : Int) (x2 : Int) (x3 : Int) (M : Mem) (r : Int) (Mr : Mem) (h : f_X12_routeLength x1 x2 x3 M = some (r, Mr)) : Cn l G mX12_routeLength 5 [vr G 139, vi x1, vi x2, vi x3] M (some (vi r)) Mr := by
  refine Cn_of2 (ls := [some (vr G 139), some (vi x1), some (vi x2), some (vi x3)]) hG hl kX12_routeLength rfl (Nat.le_of_ble_eq_true rfl) rfl rfl rfl rfl rfl (fun X eG el hX => ?_)
  subst eG; subst el
  unfold f_X12_routeLength at h
  refine x_aloadn hX dX12_routeLength_0 rfl ?_
  refine x_aloadn hX dX12_routeLength_1 rfl ?_
  refine x_iloadn hX dX12_routeLength_2 rfl ?_
  refine x_iloadn hX dX12_routeLength_3 rfl ?_
  obtain ⟨r_1, er_1, h⟩ := cl1_of h
  refine x_callVi (t := 11) (As := [vi x1, vi x2]) (rest := [vr (xG X) 139]) hX dX12_routeLength_4 (c_X12_isPart (gk hX) (gl hX) hs x1 x2 M _ er_1) kX12_isPart vX12_isPart w_2051 (st139 hs) rfl rfl rfl rfl (Nat.le_of_ble_eq_true rfl) z0 ?_
  refine x_if_ne (tgt := 14) hX dX12_routeLength_7 (by decide) rfl (fun hc => ?_) (fun hc => ?_)
  · replace h := (if_pos hc).symm.trans h
    refine x_iconst hX dX12_routeLength_10 ?_
    refine x_goto (tgt := 28) hX dX12_routeLength_11 (by decide) ?_
    exact x_weak [true, true, true, true] rfl (tj_X12_routeLength_28 hX hs x1 x2 x3 1 M r Mr h)
  · replace h := (if_neg hc).symm.trans h
    refine x_iloadn hX dX12_routeLength_14 rfl ?_
    refine x_iconst hX dX12_routeLength_15 ?_
    refine x_iconst hX dX12_routeLength_16 ?_
    obtain ⟨r_9, er_9, h⟩ := cl1_of h
    refine x_callSi (As := [vi x3, vi 0, vi 3]) (rest := [vr (xG X) 139]) hX dX12_routeLength_17 (c_X12_in (gk hX) (gl hX) x3 0 3 M _ er_9) kX12_in sX12_in w_1735 rfl rfl rfl (Nat.le_of_ble_eq_true rfl) z0 ?_
    refine x_if_ne (tgt := 27) hX dX12_routeLength_20 (by decide) rfl (fun hc => ?_) (fun hc => ?_)
    · replace h := (if_pos hc).symm.trans h
      refine x_iconst hX dX12_routeLength_23 ?_
      refine x_goto (tgt := 28) hX dX12_routeLength_24 (by decide) ?_
      exact x_weak [true, true, true, true] rfl (tj_X12_routeLength_28 hX hs x1 x2 x3 2 M r Mr h)
    · replace h := (if_neg hc).symm.trans h
      refine x_iconst hX dX12_routeLength_27 ?_
      exact x_weak [true, true, true, true] rfl (tj_X12_routeLength_28 hX hs x1 x2 x3 0 M r Mr h)
set_option maxRecDepth 100000 in
set_option maxHeartbeats 4000000 in
theorem ts_X12_stopsByGaps_20 {X : Cxt} (hX : Gd X RX12 cX12_stopsByGaps 3 (none) 5) (hs : SOK (xG X))  (x1 : Int) (x2 : Int) (M : Mem) {Q : State → Prop} (o : (Int × Mem) ⊕ ((Mem) ⊕ (Mem))) (h : s_X12_stopsByGaps_20 x1 x2 M = some o) (hP : ∀ y, o = .inl y → V X 0 0 Q 20 [some (vr (xG X) 139), some (vi x1), some (vi y.1)] [] y.2) (hE : ∀ z, o = .inr (.inl z) → V X 0 0 Q 63 [some (vr (xG X) 139), some (vi x1), none] [] z) (hR : ∀ q, o = .inr (.inr q) → Q = Qn X none q) : V X 0 0 Q 20 [some (vr (xG X) 139), some (vi x1), some (vi x2)] [] M := by
  unfold s_X12_stopsByGaps_20 at h
  refine x_iloadn hX dX12_stopsByGaps_20 rfl ?_
  refine x_iloadn hX dX12_stopsByGaps_21 rfl ?_
  refine x_icmp_ge (tgt := 63) hX dX12_stopsByGaps_22 (by decide) rfl rfl (fun hc => ?_) (fun hc => ?_)
  · replace h := (if_pos hc).symm.trans h
    refine x_aloadn hX dX12_stopsByGaps_25 rfl ?_
    refine x_aloadn hX dX12_stopsByGaps_26 rfl ?_
    refine x_getRj (j := 146) hX dX12_stopsByGaps_27 fl_X12_29 rfl (st139 hs) rfl ?_
    refine x_iloadn hX dX12_stopsByGaps_30 rfl ?_
    obtain ⟨b_4, h⟩ := gi_of h
    refine x_iald hX dX12_stopsByGaps_31 (st146 hs) b_4 rfl ?_
    obtain ⟨M_6, er_5, h⟩ := cl1_of h
    refine x_callVv (t := 11) (As := [vi (M 146 (ix x2))]) (rest := []) hX dX12_stopsByGaps_32 (c_X12_seeksGap (gk hX) (gl hX) hs (M 146 (ix x2)) M _ er_5) kX12_seeksGap vX12_seeksGap w_2011 (st139 hs) rfl rfl rfl rfl (Nat.le_of_ble_eq_true rfl) z0 ?_
    refine x_aloadn hX dX12_stopsByGaps_35 rfl ?_
    refine x_aloadn hX dX12_stopsByGaps_36 rfl ?_
    refine x_getRj (j := 146) hX dX12_stopsByGaps_37 fl_X12_29 rfl (st139 hs) rfl ?_
    refine x_iloadn hX dX12_stopsByGaps_40 rfl ?_
    obtain ⟨b_7, h⟩ := gi_of h
    refine x_iald hX dX12_stopsByGaps_41 (st146 hs) b_7 rfl ?_
    refine x_aloadn hX dX12_stopsByGaps_42 rfl ?_
    refine x_getRj (j := 140) hX dX12_stopsByGaps_43 fl_X12_7 rfl (st139 hs) rfl ?_
    refine x_iconst hX dX12_stopsByGaps_46 ?_
    refine x_iald hX dX12_stopsByGaps_47 (st140 hs) inc_1_469 ixc_1 ?_
    refine x_aloadn hX dX12_stopsByGaps_48 rfl ?_
    refine x_getI hX dX12_stopsByGaps_49 fl_X12_199 rfl (st139 hs) ?_
    refine x_iconst hX dX12_stopsByGaps_52 ?_
    refine x_iadd hX dX12_stopsByGaps_53 ?_
    obtain ⟨M_9, er_8, h⟩ := cl1_of h
    refine x_callVv (t := 11) (As := [vi (M_6 146 (ix x2)), vi (M_6 140 1), vi ((M_6 139 9) + 1)]) (rest := []) hX dX12_stopsByGaps_54 (c_X12_goesDown (gk hX) (gl hX) hs (M_6 146 (ix x2)) (M_6 140 1) ((M_6 139 9) + 1) M_6 _ er_8) kX12_goesDown vX12_goesDown w_2091 (st139 hs) rfl rfl rfl rfl (Nat.le_of_ble_eq_true rfl) z0 ?_
    obtain ⟨x2_10, ex2_10, h⟩ := bnd_of h
    refine x_iinc (ls' := [some (vr (xG X) 139), some (vi x1), some (vi x2_10)]) hX dX12_stopsByGaps_57 rfl rfl ex2_10 rfl ?_
    refine x_goto (tgt := 20) hX dX12_stopsByGaps_60 (by decide) ?_
    exact x_weak [true, true, true] rfl (hP (x2_10, M_9) (Option.some.inj h).symm)
  · replace h := (if_neg hc).symm.trans h
    exact x_weak [true, true, false] rfl (hE M (Option.some.inj h).symm)
set_option maxRecDepth 100000 in
set_option maxHeartbeats 4000000 in
theorem ts_X12_stopsByGaps_78 {X : Cxt} (hX : Gd X RX12 cX12_stopsByGaps 3 (none) 5) (hs : SOK (xG X))  (x2 : Int) (M : Mem) {Q : State → Prop} (o : (Int × Mem) ⊕ ((Mem) ⊕ (Mem))) (h : s_X12_stopsByGaps_78 x2 M = some o) (hP : ∀ y, o = .inl y → V X 0 0 Q 78 [some (vr (xG X) 139), none, some (vi y.1)] [] y.2) (hE : ∀ z, o = .inr (.inl z) → V X 0 0 Q 113 [none, none, none] [] z) (hR : ∀ q, o = .inr (.inr q) → Q = Qn X none q) : V X 0 0 Q 78 [some (vr (xG X) 139), none, some (vi x2)] [] M := by
  unfold s_X12_stopsByGaps_78 at h
  refine x_iloadn hX dX12_stopsByGaps_78 rfl ?_
  refine x_if_le (tgt := 113) hX dX12_stopsByGaps_79 (by decide) rfl (fun hc => ?_) (fun hc => ?_)
  · replace h := (if_pos hc).symm.trans h
    refine x_aloadn hX dX12_stopsByGaps_82 rfl ?_
    refine x_aloadn hX dX12_stopsByGaps_83 rfl ?_
    refine x_getRj (j := 146) hX dX12_stopsByGaps_84 fl_X12_29 rfl (st139 hs) rfl ?_
    refine x_iloadn hX dX12_stopsByGaps_87 rfl ?_
    obtain ⟨b_16, h⟩ := gi_of h
    refine x_iald hX dX12_stopsByGaps_88 (st146 hs) b_16 rfl ?_
    obtain ⟨M_18, er_17, h⟩ := cl1_of h
    refine x_callVv (t := 11) (As := [vi (M 146 (ix x2))]) (rest := []) hX dX12_stopsByGaps_89 (c_X12_seeksGap (gk hX) (gl hX) hs (M 146 (ix x2)) M _ er_17) kX12_seeksGap vX12_seeksGap w_2011 (st139 hs) rfl rfl rfl rfl (Nat.le_of_ble_eq_true rfl) z0 ?_
    refine x_aloadn hX dX12_stopsByGaps_92 rfl ?_
    refine x_aloadn hX dX12_stopsByGaps_93 rfl ?_
    refine x_getRj (j := 146) hX dX12_stopsByGaps_94 fl_X12_29 rfl (st139 hs) rfl ?_
    refine x_iloadn hX dX12_stopsByGaps_97 rfl ?_
    obtain ⟨b_19, h⟩ := gi_of h
    refine x_iald hX dX12_stopsByGaps_98 (st146 hs) b_19 rfl ?_
    refine x_iconst hX dX12_stopsByGaps_99 ?_
    refine x_aloadn hX dX12_stopsByGaps_100 rfl ?_
    refine x_getI hX dX12_stopsByGaps_101 fl_X12_199 rfl (st139 hs) ?_
    obtain ⟨M_21, er_20, h⟩ := cl1_of h
    refine x_callVv (t := 11) (As := [vi (M_18 146 (ix x2)), vi 1, vi (M_18 139 9)]) (rest := []) hX dX12_stopsByGaps_104 (c_X12_goesUp (gk hX) (gl hX) hs (M_18 146 (ix x2)) 1 (M_18 139 9) M_18 _ er_20) kX12_goesUp vX12_goesUp w_2083 (st139 hs) rfl rfl rfl rfl (Nat.le_of_ble_eq_true rfl) z0 ?_
    obtain ⟨x2_22, ex2_22, h⟩ := bnd_of h
    refine x_iinc (ls' := [some (vr (xG X) 139), none, some (vi x2_22)]) hX dX12_stopsByGaps_107 rfl rfl ex2_22 rfl ?_
    refine x_goto (tgt := 78) hX dX12_stopsByGaps_110 (by decide) ?_
    exact x_weak [true, false, true] rfl (hP (x2_22, M_21) (Option.some.inj h).symm)
  · replace h := (if_neg hc).symm.trans h
    exact x_weak [false, false, false] rfl (hE M (Option.some.inj h).symm)
set_option maxRecDepth 100000 in
set_option maxHeartbeats 4000000 in
theorem c_X12_stopsByGaps {l : Launch} {G : Gx} (hG : GOK G) (hl : l.stackTraces = false) (hs : SOK G)  (M : Mem) (Mr : Mem) (h : f_X12_stopsByGaps M = some Mr) : Cn l G mX12_stopsByGaps 5 [vr G 139] M none Mr := by
  refine Cn_of2 (ls := [some (vr G 139), none, none]) hG hl kX12_stopsByGaps rfl (Nat.le_of_ble_eq_true rfl) rfl rfl rfl rfl rfl (fun X eG el hX => ?_)
  subst eG; subst el
  unfold f_X12_stopsByGaps at h
  refine x_aloadn hX dX12_stopsByGaps_0 rfl ?_
  refine x_getI hX dX12_stopsByGaps_1 fl_X12_190 rfl (st139 hs) ?_
  refine x_iconst hX dX12_stopsByGaps_4 ?_
  refine x_isub hX dX12_stopsByGaps_5 ?_
  obtain ⟨x1_1, ex1_1, h⟩ := bnd_of h
  refine x_istoren (ls' := [some (vr (xG X) 139), some (vi x1_1), none]) hX dX12_stopsByGaps_6 rfl ex1_1 rfl ?_
  refine x_aloadn hX dX12_stopsByGaps_7 rfl ?_
  refine x_aloadn hX dX12_stopsByGaps_8 rfl ?_
  refine x_getRj (j := 146) hX dX12_stopsByGaps_9 fl_X12_29 rfl (st139 hs) rfl ?_
  refine x_iconst hX dX12_stopsByGaps_12 ?_
  refine x_iald hX dX12_stopsByGaps_13 (st146 hs) inc_0_6 ixc_0 ?_
  refine x_iconst hX dX12_stopsByGaps_14 ?_
  obtain ⟨M_3, er_2, h⟩ := cl1_of h
  refine x_callVv (t := 11) (As := [vi (M 146 0), vi 1]) (rest := []) hX dX12_stopsByGaps_15 (c_X12_goes (gk hX) (gl hX) hs (M 146 0) 1 M _ er_2) kX12_goes vX12_goes w_2079 (st139 hs) rfl rfl rfl rfl (Nat.le_of_ble_eq_true rfl) z0 ?_
  refine x_iconst hX dX12_stopsByGaps_18 ?_
  refine x_istoren (ls' := [some (vr (xG X) 139), some (vi x1_1), some (vi 1)]) hX dX12_stopsByGaps_19 rfl rfl rfl ?_
  refine x_weak (ls' := [some (vr (xG X) 139), some (vi x1_1), some (vi 1)]) [true, true, true] rfl ?_
  refine lp_use (x := (1, M_3)) (P := fun x => V X 0 0 (Qn X none Mr) 20 [some (vr (xG X) 139), some (vi x1_1), some (vi x.1)] [] x.2) (PE := fun z_11 => V X 0 0 (Qn X none Mr) 63 [some (vr (xG X) 139), some (vi x1_1), none] [] z_11) (PR := fun q => (Qn X none Mr) = Qn X none q) h (fun x o hh hP hE hR => ts_X12_stopsByGaps_20 hX hs x1_1 x.1 x.2 o hh hP hE hR) (fun z_11 h => ?_) (fun q h => ?_)
  · show V X 0 0 (Qn X none Mr) 63 [some (vr (xG X) 139), some (vi x1_1), none] [] z_11
    refine x_aloadn hX dX12_stopsByGaps_63 rfl ?_
    refine x_aloadn hX dX12_stopsByGaps_64 rfl ?_
    refine x_getRj (j := 146) hX dX12_stopsByGaps_65 fl_X12_29 rfl (st139 hs) rfl ?_
    refine x_iloadn hX dX12_stopsByGaps_68 rfl ?_
    obtain ⟨b_12, h⟩ := gi_of h
    refine x_iald hX dX12_stopsByGaps_69 (st146 hs) b_12 rfl ?_
    refine x_iconst hX dX12_stopsByGaps_70 ?_
    obtain ⟨M_14, er_13, h⟩ := cl1_of h
    refine x_callVv (t := 11) (As := [vi (z_11 146 (ix x1_1)), vi 0]) (rest := []) hX dX12_stopsByGaps_71 (c_X12_goes (gk hX) (gl hX) hs (z_11 146 (ix x1_1)) 0 z_11 _ er_13) kX12_goes vX12_goes w_2079 (st139 hs) rfl rfl rfl rfl (Nat.le_of_ble_eq_true rfl) z0 ?_
    refine x_iloadn hX dX12_stopsByGaps_74 rfl ?_
    refine x_iconst hX dX12_stopsByGaps_75 ?_
    refine x_isub hX dX12_stopsByGaps_76 ?_
    obtain ⟨x2_15, ex2_15, h⟩ := bnd_of h
    refine x_istoren (ls' := [some (vr (xG X) 139), some (vi x1_1), some (vi x2_15)]) hX dX12_stopsByGaps_77 rfl ex2_15 rfl ?_
    refine x_weak (ls' := [some (vr (xG X) 139), none, some (vi x2_15)]) [true, false, true] rfl ?_
    refine lp_use (x := (x2_15, M_14)) (P := fun x => V X 0 0 (Qn X none Mr) 78 [some (vr (xG X) 139), none, some (vi x.1)] [] x.2) (PE := fun z_23 => V X 0 0 (Qn X none Mr) 113 [none, none, none] [] z_23) (PR := fun q => (Qn X none Mr) = Qn X none q) h (fun x o hh hP hE hR => ts_X12_stopsByGaps_78 hX hs x.1 x.2 o hh hP hE hR) (fun z_23 h => ?_) (fun q h => ?_)
    · show V X 0 0 (Qn X none Mr) 113 [none, none, none] [] z_23
      cases h
      exact x_vret hX dX12_stopsByGaps_113 rfl
    · cases h; rfl
  · cases h; rfl
set_option maxRecDepth 100000 in
set_option maxHeartbeats 4000000 in
theorem tj_X12_stopsCombined_57_9 {X : Cxt} (hX : Gd X RX12 cX12_stopsCombined 4 (none) 5) (hs : SOK (xG X))   (x1 : Int) (x3 : Int) (y0 : Int) (M : Mem) {Q : State → Prop} (o : (Int × Int × Mem) ⊕ ((Mem) ⊕ (Mem))) (h : j_X12_stopsCombined_57_9 x1 x3 y0 M = some o) (hP : ∀ y, o = .inl y → V X 0 0 Q 9 [some (vr (xG X) 139), some (vi x1), some (vi y.1), some (vi y.2.1)] [] y.2.2) (hE : ∀ z, o = .inr (.inl z) → V X 0 0 Q 64 [none, none, none, none] [] z) (hR : ∀ q, o = .inr (.inr q) → Q = Qn X none q) : V X 0 0 Q 57 [some (vr (xG X) 139), some (vi x1), none, some (vi x3)] [vi y0] M := by
  unfold j_X12_stopsCombined_57_9 at h
  refine x_istoren (ls' := [some (vr (xG X) 139), some (vi x1), some (vi y0), some (vi x3)]) hX dX12_stopsCombined_57 rfl rfl rfl ?_
  obtain ⟨x3_8, ex3_8, h⟩ := bnd_of h
  refine x_iinc (ls' := [some (vr (xG X) 139), some (vi x1), some (vi y0), some (vi x3_8)]) hX dX12_stopsCombined_58 rfl rfl ex3_8 rfl ?_
  refine x_goto (tgt := 9) hX dX12_stopsCombined_61 (by decide) ?_
  exact x_weak [true, true, true, true] rfl (hP (y0, x3_8, M) (Option.some.inj h).symm)
set_option maxRecDepth 100000 in
set_option maxHeartbeats 4000000 in
theorem tj_X12_stopsCombined_33_9 {X : Cxt} (hX : Gd X RX12 cX12_stopsCombined 4 (none) 5) (hs : SOK (xG X))   (x1 : Int) (x2 : Int) (x3 : Int) (y1 : Int) (y2 : Int) (M : Mem) {Q : State → Prop} (o : (Int × Int × Mem) ⊕ ((Mem) ⊕ (Mem))) (h : j_X12_stopsCombined_33_9 x1 x2 x3 y1 y2 M = some o) (hP : ∀ y, o = .inl y → V X 0 0 Q 9 [some (vr (xG X) 139), some (vi x1), some (vi y.1), some (vi y.2.1)] [] y.2.2) (hE : ∀ z, o = .inr (.inl z) → V X 0 0 Q 64 [none, none, none, none] [] z) (hR : ∀ q, o = .inr (.inr q) → Q = Qn X none q) : V X 0 0 Q 33 [some (vr (xG X) 139), some (vi x1), some (vi x2), some (vi x3)] [vi y2, vi y1, vr (xG X) 139] M := by
  unfold j_X12_stopsCombined_33_9 at h
  obtain ⟨M_5, er_4, h⟩ := cl1_of h
  refine x_callVv (t := 11) (As := [vi y1, vi y2]) (rest := []) hX dX12_stopsCombined_33 (c_X12_goes (gk hX) (gl hX) hs y1 y2 M _ er_4) kX12_goes vX12_goes w_2079 (st139 hs) rfl rfl rfl rfl (Nat.le_of_ble_eq_true rfl) z0 ?_
  refine x_iloadn hX dX12_stopsCombined_36 rfl ?_
  refine x_iloadn hX dX12_stopsCombined_37 rfl ?_
  refine x_aloadn hX dX12_stopsCombined_38 rfl ?_
  refine x_getI hX dX12_stopsCombined_39 fl_X12_190 rfl (st139 hs) ?_
  refine x_iconst hX dX12_stopsCombined_42 ?_
  refine x_isub hX dX12_stopsCombined_43 ?_
  refine x_iloadn hX dX12_stopsCombined_44 rfl ?_
  refine x_isub hX dX12_stopsCombined_45 ?_
  obtain ⟨r_6, er_6, h⟩ := cl1_of h
  refine x_callSi (As := [vi x1, vi (((M_5 139 8) - 1) - x3)]) (rest := [vi x2]) hX dX12_stopsCombined_46 (c_X12_has (gk hX) (gl hX) x1 (((M_5 139 8) - 1) - x3) M_5 _ er_6) kX12_has sX12_has w_1868 rfl rfl rfl (Nat.le_of_ble_eq_true rfl) z0 ?_
  refine x_icmp_eq (tgt := 56) hX dX12_stopsCombined_49 (by decide) rfl rfl (fun hc => ?_) (fun hc => ?_)
  · replace h := (if_pos hc).symm.trans h
    refine x_iconst hX dX12_stopsCombined_56 ?_
    exact x_weak [true, true, false, true] rfl (tj_X12_stopsCombined_57_9 hX hs x1 x3 0 M_5 o h hP hE hR)
  · replace h := (if_neg hc).symm.trans h
    refine x_iconst hX dX12_stopsCombined_52 ?_
    refine x_goto (tgt := 57) hX dX12_stopsCombined_53 (by decide) ?_
    exact x_weak [true, true, false, true] rfl (tj_X12_stopsCombined_57_9 hX hs x1 x3 1 M_5 o h hP hE hR)
set_option maxRecDepth 100000 in
set_option maxHeartbeats 4000000 in
theorem ts_X12_stopsCombined_9 {X : Cxt} (hX : Gd X RX12 cX12_stopsCombined 4 (none) 5) (hs : SOK (xG X))  (x1 : Int) (x2 : Int) (x3 : Int) (M : Mem) {Q : State → Prop} (o : (Int × Int × Mem) ⊕ ((Mem) ⊕ (Mem))) (h : s_X12_stopsCombined_9 x1 x2 x3 M = some o) (hP : ∀ y, o = .inl y → V X 0 0 Q 9 [some (vr (xG X) 139), some (vi x1), some (vi y.1), some (vi y.2.1)] [] y.2.2) (hE : ∀ z, o = .inr (.inl z) → V X 0 0 Q 64 [none, none, none, none] [] z) (hR : ∀ q, o = .inr (.inr q) → Q = Qn X none q) : V X 0 0 Q 9 [some (vr (xG X) 139), some (vi x1), some (vi x2), some (vi x3)] [] M := by
  unfold s_X12_stopsCombined_9 at h
  refine x_iloadn hX dX12_stopsCombined_9 rfl ?_
  refine x_aloadn hX dX12_stopsCombined_10 rfl ?_
  refine x_getI hX dX12_stopsCombined_11 fl_X12_190 rfl (st139 hs) ?_
  refine x_icmp_ge (tgt := 64) hX dX12_stopsCombined_14 (by decide) rfl rfl (fun hc => ?_) (fun hc => ?_)
  · replace h := (if_pos hc).symm.trans h
    refine x_aloadn hX dX12_stopsCombined_17 rfl ?_
    refine x_aloadn hX dX12_stopsCombined_18 rfl ?_
    refine x_getRj (j := 146) hX dX12_stopsCombined_19 fl_X12_29 rfl (st139 hs) rfl ?_
    refine x_iloadn hX dX12_stopsCombined_22 rfl ?_
    obtain ⟨b_3, h⟩ := gi_of h
    refine x_iald hX dX12_stopsCombined_23 (st146 hs) b_3 rfl ?_
    refine x_iloadn hX dX12_stopsCombined_24 rfl ?_
    refine x_if_ne (tgt := 32) hX dX12_stopsCombined_25 (by decide) rfl (fun hc => ?_) (fun hc => ?_)
    · replace h := (if_pos hc).symm.trans h
      refine x_iconst hX dX12_stopsCombined_28 ?_
      refine x_goto (tgt := 33) hX dX12_stopsCombined_29 (by decide) ?_
      exact x_weak [true, true, true, true] rfl (tj_X12_stopsCombined_33_9 hX hs x1 x2 x3 (M 146 (ix x3)) 1 M o h hP hE hR)
    · replace h := (if_neg hc).symm.trans h
      refine x_iconst hX dX12_stopsCombined_32 ?_
      exact x_weak [true, true, true, true] rfl (tj_X12_stopsCombined_33_9 hX hs x1 x2 x3 (M 146 (ix x3)) 0 M o h hP hE hR)
  · replace h := (if_neg hc).symm.trans h
    exact x_weak [false, false, false, false] rfl (hE M (Option.some.inj h).symm)
set_option maxRecDepth 100000 in
set_option maxHeartbeats 4000000 in
theorem c_X12_stopsCombined {l : Launch} {G : Gx} (hG : GOK G) (hl : l.stackTraces = false) (hs : SOK G)  (M : Mem) (Mr : Mem) (h : f_X12_stopsCombined M = some Mr) : Cn l G mX12_stopsCombined 5 [vr G 139] M none Mr := by
  refine Cn_of2 (ls := [some (vr G 139), none, none, none]) hG hl kX12_stopsCombined rfl (Nat.le_of_ble_eq_true rfl) rfl rfl rfl rfl rfl (fun X eG el hX => ?_)
  subst eG; subst el
  unfold f_X12_stopsCombined at h
  refine x_aloadn hX dX12_stopsCombined_0 rfl ?_
  obtain ⟨r_1, er_1, h⟩ := cl1_of h
  refine x_callVi (t := 11) (As := []) (rest := []) hX dX12_stopsCombined_1 (c_X12_bestChoice (gk hX) (gl hX) hs M _ er_1) kX12_bestChoice vX12_bestChoice w_2015 (st139 hs) rfl rfl rfl rfl (Nat.le_of_ble_eq_true rfl) z0 ?_
  refine x_istoren (ls' := [some (vr (xG X) 139), some (vi r_1), none, none]) hX dX12_stopsCombined_4 rfl rfl rfl ?_
  refine x_iconst hX dX12_stopsCombined_5 ?_
  refine x_istoren (ls' := [some (vr (xG X) 139), some (vi r_1), some (vi 0), none]) hX dX12_stopsCombined_6 rfl rfl rfl ?_
  refine x_iconst hX dX12_stopsCombined_7 ?_
  refine x_istoren (ls' := [some (vr (xG X) 139), some (vi r_1), some (vi 0), some (vi 0)]) hX dX12_stopsCombined_8 rfl rfl rfl ?_
  refine x_weak (ls' := [some (vr (xG X) 139), some (vi r_1), some (vi 0), some (vi 0)]) [true, true, true, true] rfl ?_
  refine lp_use (x := (0, 0, M)) (P := fun x => V X 0 0 (Qn X none Mr) 9 [some (vr (xG X) 139), some (vi r_1), some (vi x.1), some (vi x.2.1)] [] x.2.2) (PE := fun z_9 => V X 0 0 (Qn X none Mr) 64 [none, none, none, none] [] z_9) (PR := fun q => (Qn X none Mr) = Qn X none q) h (fun x o hh hP hE hR => ts_X12_stopsCombined_9 hX hs r_1 x.1 x.2.1 x.2.2 o hh hP hE hR) (fun z_9 h => ?_) (fun q h => ?_)
  · show V X 0 0 (Qn X none Mr) 64 [none, none, none, none] [] z_9
    cases h
    exact x_vret hX dX12_stopsCombined_64 rfl
  · cases h; rfl
set_option maxRecDepth 100000 in
set_option maxHeartbeats 4000000 in
theorem tj_X12_readHall_55 {X : Cxt} (hX : Gd X RX12 cX12_readHall 4 (none) 5) (hs : SOK (xG X))   (M : Mem) (Mr : Mem) (h : j_X12_readHall_55 M = some Mr) : V X 0 0 (Qn X none Mr) 55 [some (vr (xG X) 139), none, none, none] [] M := by
  unfold j_X12_readHall_55 at h
  refine x_aloadn hX dX12_readHall_55 rfl ?_
  obtain ⟨M_14, er_13, h⟩ := cl1_of h
  refine x_callVv (t := 11) (As := []) (rest := []) hX dX12_readHall_56 (c_X12_ends (gk hX) (gl hX) hs M _ er_13) kX12_ends vX12_ends w_2309 (st139 hs) rfl rfl rfl rfl (Nat.le_of_ble_eq_true rfl) z0 ?_
  cases h
  exact x_vret hX dX12_readHall_59 rfl
set_option maxRecDepth 100000 in
set_option maxHeartbeats 4000000 in
theorem c_X12_readHall {l : Launch} {G : Gx} (hG : GOK G) (hl : l.stackTraces = false) (hs : SOK G)  (M : Mem) (Mr : Mem) (h : f_X12_readHall M = some Mr) : Cn l G mX12_readHall 5 [vr G 139] M none Mr := by
  refine Cn_of2 (ls := [some (vr G 139), none, none, none]) hG hl kX12_readHall rfl (Nat.le_of_ble_eq_true rfl) rfl rfl rfl rfl rfl (fun X eG el hX => ?_)
  subst eG; subst el
  unfold f_X12_readHall at h
  refine x_aloadn hX dX12_readHall_0 rfl ?_
  obtain ⟨r_1, er_1, h⟩ := cl1_of h
  refine x_callVi (t := 11) (As := []) (rest := []) hX dX12_readHall_1 (c_X12_wordHere (gk hX) (gl hX) hs M _ er_1) kX12_wordHere vX12_wordHere w_2293 (st139 hs) rfl rfl rfl rfl (Nat.le_of_ble_eq_true rfl) z0 ?_
  refine x_if_eq (tgt := 13) hX dX12_readHall_4 (by decide) rfl (fun hc => ?_) (fun hc => ?_)
  · replace h := (if_pos hc).symm.trans h
    refine x_aloadn hX dX12_readHall_13 rfl ?_
    obtain ⟨M_4, er_3, h⟩ := cl1_of h
    refine x_callVv (t := 11) (As := []) (rest := []) hX dX12_readHall_14 (c_X12_next (gk hX) (gl hX) hs M _ er_3) kX12_next vX12_next w_2272 (st139 hs) rfl rfl rfl rfl (Nat.le_of_ble_eq_true rfl) z0 ?_
    refine x_aloadn hX dX12_readHall_17 rfl ?_
    refine x_iconst hX dX12_readHall_18 ?_
    refine x_bipush hX dX12_readHall_19 bp_6 ?_
    obtain ⟨r_5, M_6, er_5, h⟩ := cl2_of h
    refine x_callVi (t := 11) (As := [vi 1, vi 6]) (rest := []) hX dX12_readHall_21 (c_X12_read (gk hX) (gl hX) hs 1 6 M_4 _ _ er_5) kX12_read vX12_read w_2301 (st139 hs) rfl rfl rfl rfl (Nat.le_of_ble_eq_true rfl) z0 ?_
    refine x_istoren (ls' := [some (vr (xG X) 139), some (vi r_5), none, none]) hX dX12_readHall_24 rfl rfl rfl ?_
    refine x_aloadn hX dX12_readHall_25 rfl ?_
    refine x_iconst hX dX12_readHall_26 ?_
    refine x_bipush hX dX12_readHall_27 bp_20 ?_
    obtain ⟨r_7, M_8, er_7, h⟩ := cl2_of h
    refine x_callVi (t := 11) (As := [vi 2, vi 20]) (rest := []) hX dX12_readHall_29 (c_X12_read (gk hX) (gl hX) hs 2 20 M_6 _ _ er_7) kX12_read vX12_read w_2301 (st139 hs) rfl rfl rfl rfl (Nat.le_of_ble_eq_true rfl) z0 ?_
    refine x_istoren (ls' := [some (vr (xG X) 139), some (vi r_5), some (vi r_7), none]) hX dX12_readHall_32 rfl rfl rfl ?_
    refine x_aloadn hX dX12_readHall_33 rfl ?_
    refine x_iconst hX dX12_readHall_34 ?_
    refine x_bipush hX dX12_readHall_35 bp_9 ?_
    obtain ⟨r_9, M_10, er_9, h⟩ := cl2_of h
    refine x_callVi (t := 11) (As := [vi 1, vi 9]) (rest := []) hX dX12_readHall_37 (c_X12_read (gk hX) (gl hX) hs 1 9 M_8 _ _ er_9) kX12_read vX12_read w_2301 (st139 hs) rfl rfl rfl rfl (Nat.le_of_ble_eq_true rfl) z0 ?_
    refine x_istoren (ls' := [some (vr (xG X) 139), some (vi r_5), some (vi r_7), some (vi r_9)]) hX dX12_readHall_40 rfl rfl rfl ?_
    refine x_aloadn hX dX12_readHall_41 rfl ?_
    obtain ⟨r_11, er_11, h⟩ := cl1_of h
    refine x_callVi (t := 11) (As := []) (rest := []) hX dX12_readHall_42 (c_X12_isWell (gk hX) (gl hX) hs M_10 _ er_11) kX12_isWell vX12_isWell w_2305 (st139 hs) rfl rfl rfl rfl (Nat.le_of_ble_eq_true rfl) z0 ?_
    refine x_if_eq (tgt := 55) hX dX12_readHall_45 (by decide) rfl (fun hc => ?_) (fun hc => ?_)
    · replace h := (if_pos hc).symm.trans h
      exact x_weak [true, false, false, false] rfl (tj_X12_readHall_55 hX hs M_10 Mr h)
    · replace h := (if_neg hc).symm.trans h
      refine x_aloadn hX dX12_readHall_48 rfl ?_
      refine x_iloadn hX dX12_readHall_49 rfl ?_
      refine x_iloadn hX dX12_readHall_50 rfl ?_
      refine x_iloadn hX dX12_readHall_51 rfl ?_
      obtain ⟨M_16, er_15, h⟩ := cl1_of h
      refine x_callVv (t := 11) (As := [vi r_5, vi r_7, vi r_9]) (rest := []) hX dX12_readHall_52 (c_X12_laysHall (gk hX) (gl hX) hs r_5 r_7 r_9 M_10 _ er_15) kX12_laysHall vX12_laysHall w_1738 (st139 hs) rfl rfl rfl rfl (Nat.le_of_ble_eq_true rfl) z0 ?_
      exact x_weak [true, false, false, false] rfl (tj_X12_readHall_55 hX hs M_16 Mr h)
  · replace h := (if_neg hc).symm.trans h
    refine x_aloadn hX dX12_readHall_7 rfl ?_
    refine x_iconst hX dX12_readHall_8 ?_
    obtain ⟨M_18, er_17, h⟩ := cl1_of h
    refine x_callVv (t := 11) (As := [vi 1]) (rest := []) hX dX12_readHall_9 (c_X12_fails (gk hX) (gl hX) hs 1 M _ er_17) kX12_fails vX12_fails w_2297 (st139 hs) rfl rfl rfl rfl (Nat.le_of_ble_eq_true rfl) z0 ?_
    cases h
    exact x_vret hX dX12_readHall_12 rfl
set_option maxRecDepth 100000 in
set_option maxHeartbeats 4000000 in
theorem c_X12_readItem {l : Launch} {G : Gx} (hG : GOK G) (hl : l.stackTraces = false) (hs : SOK G)  (M : Mem) (Mr : Mem) (h : f_X12_readItem M = some Mr) : Cn l G mX12_readItem 5 [vr G 139] M none Mr := by
  refine Cn_of2 (ls := [some (vr G 139), none, none, none, none, none]) hG hl kX12_readItem rfl (Nat.le_of_ble_eq_true rfl) rfl rfl rfl rfl rfl (fun X eG el hX => ?_)
  subst eG; subst el
  unfold f_X12_readItem at h
  refine x_aloadn hX dX12_readItem_0 rfl ?_
  refine x_getRj (j := 140) hX dX12_readItem_1 fl_X12_7 rfl (st139 hs) rfl ?_
  refine x_iconst hX dX12_readItem_4 ?_
  refine x_iald hX dX12_readItem_5 (st140 hs) inc_3_469 ixc_3 ?_
  refine x_bipush hX dX12_readItem_6 bp_24 ?_
  refine x_icmp_ne (tgt := 17) hX dX12_readItem_8 (by decide) rfl cw_24 (fun hc => ?_) (fun hc => ?_)
  · replace h := (if_pos hc).symm.trans h
    refine x_aloadn hX dX12_readItem_11 rfl ?_
    refine x_iconst hX dX12_readItem_12 ?_
    obtain ⟨M_2, er_1, h⟩ := cl1_of h
    refine x_callVv (t := 11) (As := [vi 3]) (rest := []) hX dX12_readItem_13 (c_X12_fails (gk hX) (gl hX) hs 3 M _ er_1) kX12_fails vX12_fails w_2297 (st139 hs) rfl rfl rfl rfl (Nat.le_of_ble_eq_true rfl) z0 ?_
    cases h
    exact x_vret hX dX12_readItem_16 rfl
  · replace h := (if_neg hc).symm.trans h
    refine x_aloadn hX dX12_readItem_17 rfl ?_
    obtain ⟨M_4, er_3, h⟩ := cl1_of h
    refine x_callVv (t := 11) (As := []) (rest := []) hX dX12_readItem_18 (c_X12_next (gk hX) (gl hX) hs M _ er_3) kX12_next vX12_next w_2272 (st139 hs) rfl rfl rfl rfl (Nat.le_of_ble_eq_true rfl) z0 ?_
    refine x_aloadn hX dX12_readItem_21 rfl ?_
    refine x_iconst hX dX12_readItem_22 ?_
    refine x_aloadn hX dX12_readItem_23 rfl ?_
    refine x_getRj (j := 140) hX dX12_readItem_24 fl_X12_7 rfl (st139 hs) rfl ?_
    refine x_iconst hX dX12_readItem_27 ?_
    refine x_iald hX dX12_readItem_28 (st140 hs) inc_0_469 ixc_0 ?_
    refine x_iconst hX dX12_readItem_29 ?_
    refine x_isub hX dX12_readItem_30 ?_
    obtain ⟨r_5, M_6, er_5, h⟩ := cl2_of h
    refine x_callVi (t := 11) (As := [vi 0, vi ((M_4 140 0) - 1)]) (rest := []) hX dX12_readItem_31 (c_X12_read (gk hX) (gl hX) hs 0 ((M_4 140 0) - 1) M_4 _ _ er_5) kX12_read vX12_read w_2301 (st139 hs) rfl rfl rfl rfl (Nat.le_of_ble_eq_true rfl) z0 ?_
    refine x_istoren (ls' := [some (vr (xG X) 139), some (vi r_5), none, none, none, none]) hX dX12_readItem_34 rfl rfl rfl ?_
    refine x_aloadn hX dX12_readItem_35 rfl ?_
    refine x_iconst hX dX12_readItem_36 ?_
    refine x_aloadn hX dX12_readItem_37 rfl ?_
    refine x_getRj (j := 140) hX dX12_readItem_38 fl_X12_7 rfl (st139 hs) rfl ?_
    refine x_iconst hX dX12_readItem_41 ?_
    refine x_iald hX dX12_readItem_42 (st140 hs) inc_1_469 ixc_1 ?_
    obtain ⟨r_7, M_8, er_7, h⟩ := cl2_of h
    refine x_callVi (t := 11) (As := [vi 1, vi (M_6 140 1)]) (rest := []) hX dX12_readItem_43 (c_X12_read (gk hX) (gl hX) hs 1 (M_6 140 1) M_6 _ _ er_7) kX12_read vX12_read w_2301 (st139 hs) rfl rfl rfl rfl (Nat.le_of_ble_eq_true rfl) z0 ?_
    refine x_istoren (ls' := [some (vr (xG X) 139), some (vi r_5), some (vi r_7), none, none, none]) hX dX12_readItem_46 rfl rfl rfl ?_
    refine x_aloadn hX dX12_readItem_47 rfl ?_
    refine x_iconst hX dX12_readItem_48 ?_
    refine x_bipush hX dX12_readItem_49 bp_50 ?_
    obtain ⟨r_9, M_10, er_9, h⟩ := cl2_of h
    refine x_callVi (t := 11) (As := [vi 1, vi 50]) (rest := []) hX dX12_readItem_51 (c_X12_read (gk hX) (gl hX) hs 1 50 M_8 _ _ er_9) kX12_read vX12_read w_2301 (st139 hs) rfl rfl rfl rfl (Nat.le_of_ble_eq_true rfl) z0 ?_
    refine x_istoren (ls' := [some (vr (xG X) 139), some (vi r_5), some (vi r_7), some (vi r_9), none, none]) hX dX12_readItem_54 rfl rfl rfl ?_
    refine x_aloadn hX dX12_readItem_55 rfl ?_
    refine x_iconst hX dX12_readItem_56 ?_
    refine x_sipush hX dX12_readItem_57 sp_999 ?_
    obtain ⟨r_11, M_12, er_11, h⟩ := cl2_of h
    refine x_callVi (t := 11) (As := [vi 0, vi 999]) (rest := []) hX dX12_readItem_60 (c_X12_read (gk hX) (gl hX) hs 0 999 M_10 _ _ er_11) kX12_read vX12_read w_2301 (st139 hs) rfl rfl rfl rfl (Nat.le_of_ble_eq_true rfl) z0 ?_
    refine x_istore (ls' := [some (vr (xG X) 139), some (vi r_5), some (vi r_7), some (vi r_9), some (vi r_11), none]) hX dX12_readItem_63 rfl rfl rfl ?_
    refine x_aloadn hX dX12_readItem_65 rfl ?_
    obtain ⟨r_13, er_13, h⟩ := cl1_of h
    refine x_callVi (t := 11) (As := []) (rest := []) hX dX12_readItem_66 (c_X12_isWell (gk hX) (gl hX) hs M_12 _ er_13) kX12_isWell vX12_isWell w_2305 (st139 hs) rfl rfl rfl rfl (Nat.le_of_ble_eq_true rfl) z0 ?_
    refine x_if_eq (tgt := 83) hX dX12_readItem_69 (by decide) rfl (fun hc => ?_) (fun hc => ?_)
    · replace h := (if_pos hc).symm.trans h
      cases h
      exact x_vret hX dX12_readItem_83 rfl
    · replace h := (if_neg hc).symm.trans h
      refine x_aloadn hX dX12_readItem_72 rfl ?_
      refine x_iloadn hX dX12_readItem_73 rfl ?_
      refine x_iloadn hX dX12_readItem_74 rfl ?_
      refine x_iloadn hX dX12_readItem_75 rfl ?_
      refine x_iload hX dX12_readItem_76 rfl ?_
      obtain ⟨r_15, M_16, er_15, h⟩ := cl2_of h
      refine x_callVi (t := 11) (As := [vi r_5, vi r_7, vi r_9, vi r_11]) (rest := []) hX dX12_readItem_78 (c_X12_adds (gk hX) (gl hX) hs r_5 r_7 r_9 r_11 M_12 _ _ er_15) kX12_adds vX12_adds w_1754 (st139 hs) rfl rfl rfl rfl (Nat.le_of_ble_eq_true rfl) z0 ?_
      refine x_istore (ls' := [some (vr (xG X) 139), some (vi r_5), some (vi r_7), some (vi r_9), some (vi r_11), some (vi r_15)]) hX dX12_readItem_81 rfl rfl rfl ?_
      cases h
      exact x_vret hX dX12_readItem_83 rfl
set_option maxRecDepth 100000 in
set_option maxHeartbeats 4000000 in
theorem tj_X12_readLine_46 {X : Cxt} (hX : Gd X RX12 cX12_readLine 5 (none) 5) (hs : SOK (xG X))   (x1 : Int) (M : Mem) (Mr : Mem) (h : j_X12_readLine_46 x1 M = some Mr) : V X 0 0 (Qn X none Mr) 46 [some (vr (xG X) 139), some (vi x1), none, none, none] [] M := by
  unfold j_X12_readLine_46 at h
  refine x_aloadn hX dX12_readLine_46 rfl ?_
  refine x_iconst hX dX12_readLine_47 ?_
  refine x_aloadn hX dX12_readLine_48 rfl ?_
  refine x_getRj (j := 140) hX dX12_readLine_49 fl_X12_7 rfl (st139 hs) rfl ?_
  refine x_iconst hX dX12_readLine_52 ?_
  refine x_iald hX dX12_readLine_53 (st140 hs) inc_3_469 ixc_3 ?_
  refine x_iconst hX dX12_readLine_54 ?_
  refine x_isub hX dX12_readLine_55 ?_
  obtain ⟨r_9, M_10, er_9, h⟩ := cl2_of h
  refine x_callVi (t := 11) (As := [vi 0, vi ((M 140 3) - 1)]) (rest := []) hX dX12_readLine_56 (c_X12_read (gk hX) (gl hX) hs 0 ((M 140 3) - 1) M _ _ er_9) kX12_read vX12_read w_2301 (st139 hs) rfl rfl rfl rfl (Nat.le_of_ble_eq_true rfl) z0 ?_
  refine x_istoren (ls' := [some (vr (xG X) 139), some (vi x1), some (vi r_9), none, none]) hX dX12_readLine_59 rfl rfl rfl ?_
  refine x_aloadn hX dX12_readLine_60 rfl ?_
  refine x_iconst hX dX12_readLine_61 ?_
  refine x_bipush hX dX12_readLine_62 bp_99 ?_
  obtain ⟨r_11, M_12, er_11, h⟩ := cl2_of h
  refine x_callVi (t := 11) (As := [vi 1, vi 99]) (rest := []) hX dX12_readLine_64 (c_X12_read (gk hX) (gl hX) hs 1 99 M_10 _ _ er_11) kX12_read vX12_read w_2301 (st139 hs) rfl rfl rfl rfl (Nat.le_of_ble_eq_true rfl) z0 ?_
  refine x_istoren (ls' := [some (vr (xG X) 139), some (vi x1), some (vi r_9), some (vi r_11), none]) hX dX12_readLine_67 rfl rfl rfl ?_
  refine x_aloadn hX dX12_readLine_68 rfl ?_
  obtain ⟨r_13, er_13, h⟩ := cl1_of h
  refine x_callVi (t := 11) (As := []) (rest := []) hX dX12_readLine_69 (c_X12_isWell (gk hX) (gl hX) hs M_12 _ er_13) kX12_isWell vX12_isWell w_2305 (st139 hs) rfl rfl rfl rfl (Nat.le_of_ble_eq_true rfl) z0 ?_
  refine x_if_eq (tgt := 84) hX dX12_readLine_72 (by decide) rfl (fun hc => ?_) (fun hc => ?_)
  · replace h := (if_pos hc).symm.trans h
    cases h
    exact x_vret hX dX12_readLine_84 rfl
  · replace h := (if_neg hc).symm.trans h
    refine x_aloadn hX dX12_readLine_75 rfl ?_
    refine x_iloadn hX dX12_readLine_76 rfl ?_
    refine x_iloadn hX dX12_readLine_77 rfl ?_
    refine x_iloadn hX dX12_readLine_78 rfl ?_
    obtain ⟨r_15, M_16, er_15, h⟩ := cl2_of h
    refine x_callVi (t := 11) (As := [vi x1, vi r_9, vi r_11]) (rest := []) hX dX12_readLine_79 (c_X12_addsLine (gk hX) (gl hX) hs x1 r_9 r_11 M_12 _ _ er_15) kX12_addsLine vX12_addsLine w_1808 (st139 hs) rfl rfl rfl rfl (Nat.le_of_ble_eq_true rfl) z0 ?_
    refine x_istore (ls' := [some (vr (xG X) 139), some (vi x1), some (vi r_9), some (vi r_11), some (vi r_15)]) hX dX12_readLine_82 rfl rfl rfl ?_
    cases h
    exact x_vret hX dX12_readLine_84 rfl
set_option maxRecDepth 100000 in
set_option maxHeartbeats 4000000 in
theorem c_X12_readLine {l : Launch} {G : Gx} (hG : GOK G) (hl : l.stackTraces = false) (hs : SOK G)  (x1 : Int) (M : Mem) (Mr : Mem) (h : f_X12_readLine x1 M = some Mr) : Cn l G mX12_readLine 5 [vr G 139, vi x1] M none Mr := by
  refine Cn_of2 (ls := [some (vr G 139), some (vi x1), none, none, none]) hG hl kX12_readLine rfl (Nat.le_of_ble_eq_true rfl) rfl rfl rfl rfl rfl (fun X eG el hX => ?_)
  subst eG; subst el
  unfold f_X12_readLine at h
  refine x_aloadn hX dX12_readLine_0 rfl ?_
  refine x_iloadn hX dX12_readLine_1 rfl ?_
  refine x_iconst hX dX12_readLine_2 ?_
  obtain ⟨r_1, er_1, h⟩ := cl1_of h
  refine x_callVi (t := 11) (As := [vi x1, vi 2]) (rest := []) hX dX12_readLine_3 (c_X12_ofOrder (gk hX) (gl hX) hs x1 2 M _ er_1) kX12_ofOrder vX12_ofOrder w_1797 (st139 hs) rfl rfl rfl rfl (Nat.le_of_ble_eq_true rfl) z0 ?_
  refine x_bipush hX dX12_readLine_6 bp_6 ?_
  refine x_icmp_ne (tgt := 17) hX dX12_readLine_8 (by decide) rfl cw_6 (fun hc => ?_) (fun hc => ?_)
  · replace h := (if_pos hc).symm.trans h
    refine x_aloadn hX dX12_readLine_11 rfl ?_
    refine x_iconst hX dX12_readLine_12 ?_
    obtain ⟨M_4, er_3, h⟩ := cl1_of h
    refine x_callVv (t := 11) (As := [vi 3]) (rest := []) hX dX12_readLine_13 (c_X12_fails (gk hX) (gl hX) hs 3 M _ er_3) kX12_fails vX12_fails w_2297 (st139 hs) rfl rfl rfl rfl (Nat.le_of_ble_eq_true rfl) z0 ?_
    cases h
    exact x_vret hX dX12_readLine_16 rfl
  · replace h := (if_neg hc).symm.trans h
    refine x_aloadn hX dX12_readLine_17 rfl ?_
    obtain ⟨M_6, er_5, h⟩ := cl1_of h
    refine x_callVv (t := 11) (As := []) (rest := []) hX dX12_readLine_18 (c_X12_next (gk hX) (gl hX) hs M _ er_5) kX12_next vX12_next w_2272 (st139 hs) rfl rfl rfl rfl (Nat.le_of_ble_eq_true rfl) z0 ?_
    refine x_aloadn hX dX12_readLine_21 rfl ?_
    refine x_getI hX dX12_readLine_22 fl_X12_371 rfl (st139 hs) ?_
    refine x_iconst hX dX12_readLine_25 ?_
    refine x_icmp_ne (tgt := 46) hX dX12_readLine_26 (by decide) rfl cw_2 (fun hc => ?_) (fun hc => ?_)
    · replace h := (if_pos hc).symm.trans h
      refine x_aloadn hX dX12_readLine_29 rfl ?_
      refine x_iloadn hX dX12_readLine_30 rfl ?_
      refine x_aloadn hX dX12_readLine_31 rfl ?_
      refine x_getI hX dX12_readLine_32 fl_X12_374 rfl (st139 hs) ?_
      obtain ⟨r_7, er_7, h⟩ := cl1_of h
      refine x_callVi (t := 11) (As := [vi x1, vi (M_6 139 27)]) (rest := []) hX dX12_readLine_35 (c_X12_hasLine (gk hX) (gl hX) hs x1 (M_6 139 27) M_6 _ er_7) kX12_hasLine vX12_hasLine w_1801 (st139 hs) rfl rfl rfl rfl (Nat.le_of_ble_eq_true rfl) z0 ?_
      refine x_if_eq (tgt := 46) hX dX12_readLine_38 (by decide) rfl (fun hc => ?_) (fun hc => ?_)
      · replace h := (if_pos hc).symm.trans h
        exact x_weak [true, true, false, false, false] rfl (tj_X12_readLine_46 hX hs x1 M_6 Mr h)
      · replace h := (if_neg hc).symm.trans h
        refine x_aloadn hX dX12_readLine_41 rfl ?_
        refine x_iconst hX dX12_readLine_42 ?_
        obtain ⟨M_18, er_17, h⟩ := cl1_of h
        refine x_callVv (t := 11) (As := [vi 2]) (rest := []) hX dX12_readLine_43 (c_X12_fails (gk hX) (gl hX) hs 2 M_6 _ er_17) kX12_fails vX12_fails w_2297 (st139 hs) rfl rfl rfl rfl (Nat.le_of_ble_eq_true rfl) z0 ?_
        exact x_weak [true, true, false, false, false] rfl (tj_X12_readLine_46 hX hs x1 M_18 Mr h)
    · replace h := (if_neg hc).symm.trans h
      exact x_weak [true, true, false, false, false] rfl (tj_X12_readLine_46 hX hs x1 M_6 Mr h)
