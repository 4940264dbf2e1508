-- written by wip/gen/emit.py: X6_listLargestGap, X6_listCombined, X7_measureWork, X8_makeAll, X10_readItem, X10_readZones, X10_readBuffer, X10_readTimes, X11_makeBatches, X11_batchRoute, X11_bestPolicy
set_option maxRecDepth 100000 in
set_option maxHeartbeats 4000000 in
theorem ts_X6_listLargestGap_28 {X : Cxt} (hX : Gd X RX6 cX6_listLargestGap 3 (none) 4) {th : Nat} (h0 : at_ (xG X) th 16 0) {a1 : Nat} (h1 : at_ (xG X) a1 11 0) (x2 : Int) (M : Mem) {Q : State → Prop} (o : (Int × Mem) ⊕ ((Mem) ⊕ (Mem))) (h : s_X6_listLargestGap_28 th a1 x2 M = some o) (hP : ∀ y, o = .inl y → V X 0 0 Q 28 [some (vr (xG X) th), some (vr (xG X) a1), some (vi y.1)] [] y.2) (hE : ∀ z, o = .inr (.inl z) → V X 0 0 Q 71 [some (vr (xG X) th), some (vr (xG X) a1), none] [] z) (hR : ∀ q, o = .inr (.inr q) → Q = Qn X none q) : V X 0 0 Q 28 [some (vr (xG X) th), some (vr (xG X) a1), some (vi x2)] [] M := by
  unfold s_X6_listLargestGap_28 at h
  refine x_iloadn hX dX6_listLargestGap_28 rfl ?_
  refine x_aloadn hX dX6_listLargestGap_29 rfl ?_
  refine x_getI hX dX6_listLargestGap_30 fl_X6_107 rfl h0 ?_
  refine x_iconst hX dX6_listLargestGap_33 ?_
  refine x_isub hX dX6_listLargestGap_34 ?_
  refine x_icmp_ge (tgt := 71) hX dX6_listLargestGap_35 (by decide) rfl rfl (fun hc => ?_) (fun hc => ?_)
  · replace h := (if_pos hc).symm.trans h
    refine x_aloadn hX dX6_listLargestGap_38 rfl ?_
    refine x_aloadn hX dX6_listLargestGap_39 rfl ?_
    refine x_getRj (j := th + 5) hX dX6_listLargestGap_40 fl_X6_24 rfl h0 rfl ?_
    refine x_iloadn hX dX6_listLargestGap_43 rfl ?_
    obtain ⟨b_5, h⟩ := gi_of h
    refine x_iald hX dX6_listLargestGap_44 (fo_6_7 (gk hX) h0) b_5 rfl ?_
    obtain ⟨M_7, er_6, h⟩ := cl1_of h
    refine x_callVv (t := 6) (As := [vi (M (th + 5) (ix x2))]) (rest := []) hX dX6_listLargestGap_45 (c_X6_findLargestGap (gk hX) (gl hX) h0 (M (th + 5) (ix x2)) M _ er_6) kX6_findLargestGap vX6_findLargestGap w_650 h0 rfl rfl rfl rfl (Nat.le_of_ble_eq_true rfl) z0 ?_
    refine x_aloadn hX dX6_listLargestGap_48 rfl ?_
    refine x_aloadn hX dX6_listLargestGap_49 rfl ?_
    refine x_aloadn hX dX6_listLargestGap_50 rfl ?_
    refine x_getRj (j := th + 5) hX dX6_listLargestGap_51 fl_X6_24 rfl h0 rfl ?_
    refine x_iloadn hX dX6_listLargestGap_54 rfl ?_
    obtain ⟨b_8, h⟩ := gi_of h
    refine x_iald hX dX6_listLargestGap_55 (fo_6_7 (gk hX) h0) b_8 rfl ?_
    refine x_aloadn hX dX6_listLargestGap_56 rfl ?_
    refine x_getI hX dX6_listLargestGap_57 fl_X6_133 rfl h0 ?_
    refine x_iconst hX dX6_listLargestGap_60 ?_
    refine x_iadd hX dX6_listLargestGap_61 ?_
    obtain ⟨M_10, er_9, h⟩ := cl1_of h
    refine x_callVv (t := 6) (As := [vr (xG X) a1, vi (M_7 (th + 5) (ix x2)), vi ((M_7 th 8) + 1)]) (rest := []) hX dX6_listLargestGap_62 (c_X6_visitDown (gk hX) (gl hX) h0 h1 (M_7 (th + 5) (ix x2)) ((M_7 th 8) + 1) M_7 _ er_9) kX6_visitDown vX6_visitDown w_1479 h0 rfl rfl rfl rfl (Nat.le_of_ble_eq_true rfl) z0 ?_
    obtain ⟨x2_11, ex2_11, h⟩ := bnd_of h
    refine x_iinc (ls' := [some (vr (xG X) th), some (vr (xG X) a1), some (vi x2_11)]) hX dX6_listLargestGap_65 rfl rfl ex2_11 rfl ?_
    refine x_goto (tgt := 28) hX dX6_listLargestGap_68 (by decide) ?_
    exact x_weak [true, true, true] rfl (hP (x2_11, M_10) (Option.some.inj h).symm)
  · replace h := (if_neg hc).symm.trans h
    exact x_weak [true, true, false] rfl (hE M (Option.some.inj h).symm)
set_option maxRecDepth 100000 in
set_option maxHeartbeats 4000000 in
theorem ts_X6_listLargestGap_95 {X : Cxt} (hX : Gd X RX6 cX6_listLargestGap 3 (none) 4) {th : Nat} (h0 : at_ (xG X) th 16 0) {a1 : Nat} (h1 : at_ (xG X) a1 11 0) (x2 : Int) (M : Mem) {Q : State → Prop} (o : (Int × Mem) ⊕ ((Mem) ⊕ (Mem))) (h : s_X6_listLargestGap_95 th a1 x2 M = some o) (hP : ∀ y, o = .inl y → V X 0 0 Q 95 [some (vr (xG X) th), some (vr (xG X) a1), some (vi y.1)] [] y.2) (hE : ∀ z, o = .inr (.inl z) → V X 0 0 Q 131 [none, none, none] [] z) (hR : ∀ q, o = .inr (.inr q) → Q = Qn X none q) : V X 0 0 Q 95 [some (vr (xG X) th), some (vr (xG X) a1), some (vi x2)] [] M := by
  unfold s_X6_listLargestGap_95 at h
  refine x_iloadn hX dX6_listLargestGap_95 rfl ?_
  refine x_iconst hX dX6_listLargestGap_96 ?_
  refine x_icmp_lt (tgt := 131) hX dX6_listLargestGap_97 (by decide) rfl cw_1 (fun hc => ?_) (fun hc => ?_)
  · replace h := (if_pos hc).symm.trans h
    exact x_weak [false, false, false] rfl (hE M (Option.some.inj h).symm)
  · replace h := (if_neg hc).symm.trans h
    refine x_aloadn hX dX6_listLargestGap_100 rfl ?_
    refine x_aloadn hX dX6_listLargestGap_101 rfl ?_
    refine x_getRj (j := th + 5) hX dX6_listLargestGap_102 fl_X6_24 rfl h0 rfl ?_
    refine x_iloadn hX dX6_listLargestGap_105 rfl ?_
    obtain ⟨b_17, h⟩ := gi_of h
    refine x_iald hX dX6_listLargestGap_106 (fo_6_7 (gk hX) h0) b_17 rfl ?_
    obtain ⟨M_19, er_18, h⟩ := cl1_of h
    refine x_callVv (t := 6) (As := [vi (M (th + 5) (ix x2))]) (rest := []) hX dX6_listLargestGap_107 (c_X6_findLargestGap (gk hX) (gl hX) h0 (M (th + 5) (ix x2)) M _ er_18) kX6_findLargestGap vX6_findLargestGap w_650 h0 rfl rfl rfl rfl (Nat.le_of_ble_eq_true rfl) z0 ?_
    refine x_aloadn hX dX6_listLargestGap_110 rfl ?_
    refine x_aloadn hX dX6_listLargestGap_111 rfl ?_
    refine x_aloadn hX dX6_listLargestGap_112 rfl ?_
    refine x_getRj (j := th + 5) hX dX6_listLargestGap_113 fl_X6_24 rfl h0 rfl ?_
    refine x_iloadn hX dX6_listLargestGap_116 rfl ?_
    obtain ⟨b_20, h⟩ := gi_of h
    refine x_iald hX dX6_listLargestGap_117 (fo_6_7 (gk hX) h0) b_20 rfl ?_
    refine x_aloadn hX dX6_listLargestGap_118 rfl ?_
    refine x_getI hX dX6_listLargestGap_119 fl_X6_133 rfl h0 ?_
    obtain ⟨M_22, er_21, h⟩ := cl1_of h
    refine x_callVv (t := 6) (As := [vr (xG X) a1, vi (M_19 (th + 5) (ix x2)), vi (M_19 th 8)]) (rest := []) hX dX6_listLargestGap_122 (c_X6_visitUp (gk hX) (gl hX) h0 h1 (M_19 (th + 5) (ix x2)) (M_19 th 8) M_19 _ er_21) kX6_visitUp vX6_visitUp w_1471 h0 rfl rfl rfl rfl (Nat.le_of_ble_eq_true rfl) z0 ?_
    obtain ⟨x2_23, ex2_23, h⟩ := bnd_of h
    refine x_iinc (ls' := [some (vr (xG X) th), some (vr (xG X) a1), some (vi x2_23)]) hX dX6_listLargestGap_125 rfl rfl ex2_23 rfl ?_
    refine x_goto (tgt := 95) hX dX6_listLargestGap_128 (by decide) ?_
    exact x_weak [true, true, true] rfl (hP (x2_23, M_22) (Option.some.inj h).symm)
set_option maxRecDepth 100000 in
set_option maxHeartbeats 4000000 in
theorem c_X6_listLargestGap {l : Launch} {G : Gx} (hG : GOK G) (hl : l.stackTraces = false) {th : Nat} (h0 : at_ G th 16 0) {a1 : Nat} (h1 : at_ G a1 11 0) (M : Mem) (Mr : Mem) (h : f_X6_listLargestGap th a1 M = some Mr) : Cn l G mX6_listLargestGap 4 [vr G th, vr G a1] M none Mr := by
  refine Cn_of2 (ls := [some (vr G th), some (vr G a1), none]) hG hl kX6_listLargestGap rfl (Nat.le_of_ble_eq_true rfl) rfl rfl rfl rfl rfl (fun X eG el hX => ?_)
  subst eG; subst el
  unfold f_X6_listLargestGap at h
  refine x_aloadn hX dX6_listLargestGap_0 rfl ?_
  refine x_getI hX dX6_listLargestGap_1 fl_X6_107 rfl h0 ?_
  refine x_iconst hX dX6_listLargestGap_4 ?_
  refine x_icmp_ge (tgt := 14) hX dX6_listLargestGap_5 (by decide) rfl cw_2 (fun hc => ?_) (fun hc => ?_)
  · replace h := (if_pos hc).symm.trans h
    refine x_aloadn hX dX6_listLargestGap_8 rfl ?_
    refine x_aloadn hX dX6_listLargestGap_9 rfl ?_
    obtain ⟨M_2, er_1, h⟩ := cl1_of h
    refine x_callVv (t := 6) (As := [vr (xG X) a1]) (rest := []) hX dX6_listLargestGap_10 (c_X6_listReturn (gk hX) (gl hX) h0 h1 M _ er_1) kX6_listReturn vX6_listReturn w_1487 h0 rfl rfl rfl rfl (Nat.le_of_ble_eq_true rfl) z0 ?_
    cases h
    exact x_vret hX dX6_listLargestGap_13 rfl
  · replace h := (if_neg hc).symm.trans h
    refine x_aloadn hX dX6_listLargestGap_14 rfl ?_
    refine x_aloadn hX dX6_listLargestGap_15 rfl ?_
    refine x_aloadn hX dX6_listLargestGap_16 rfl ?_
    refine x_getRj (j := th + 5) hX dX6_listLargestGap_17 fl_X6_24 rfl h0 rfl ?_
    refine x_iconst hX dX6_listLargestGap_20 ?_
    refine x_iald hX dX6_listLargestGap_21 (fo_6_7 (gk hX) h0) inc_0_6 ixc_0 ?_
    refine x_iconst hX dX6_listLargestGap_22 ?_
    obtain ⟨M_4, er_3, h⟩ := cl1_of h
    refine x_callVv (t := 6) (As := [vr (xG X) a1, vi (M (th + 5) 0), vi 0]) (rest := []) hX dX6_listLargestGap_23 (c_X6_visitFrom (gk hX) (gl hX) h0 h1 (M (th + 5) 0) 0 M _ er_3) kX6_visitFrom vX6_visitFrom w_1467 h0 rfl rfl rfl rfl (Nat.le_of_ble_eq_true rfl) z0 ?_
    refine x_iconst hX dX6_listLargestGap_26 ?_
    refine x_istoren (ls' := [some (vr (xG X) th), some (vr (xG X) a1), some (vi 1)]) hX dX6_listLargestGap_27 rfl rfl rfl ?_
    refine x_weak (ls' := [some (vr (xG X) th), some (vr (xG X) a1), some (vi 1)]) [true, true, true] rfl ?_
    refine lp_use (x := (1, M_4)) (P := fun x => V X 0 0 (Qn X none Mr) 28 [some (vr (xG X) th), some (vr (xG X) a1), some (vi x.1)] [] x.2) (PE := fun z_12 => V X 0 0 (Qn X none Mr) 71 [some (vr (xG X) th), some (vr (xG X) a1), none] [] z_12) (PR := fun q => (Qn X none Mr) = Qn X none q) h (fun x o hh hP hE hR => ts_X6_listLargestGap_28 hX h0 h1 x.1 x.2 o hh hP hE hR) (fun z_12 h => ?_) (fun q h => ?_)
    · show V X 0 0 (Qn X none Mr) 71 [some (vr (xG X) th), some (vr (xG X) a1), none] [] z_12
      refine x_aloadn hX dX6_listLargestGap_71 rfl ?_
      refine x_aloadn hX dX6_listLargestGap_72 rfl ?_
      refine x_aloadn hX dX6_listLargestGap_73 rfl ?_
      refine x_getRj (j := th + 5) hX dX6_listLargestGap_74 fl_X6_24 rfl h0 rfl ?_
      refine x_aloadn hX dX6_listLargestGap_77 rfl ?_
      refine x_getI hX dX6_listLargestGap_78 fl_X6_107 rfl h0 ?_
      refine x_iconst hX dX6_listLargestGap_81 ?_
      refine x_isub hX dX6_listLargestGap_82 ?_
      obtain ⟨b_13, h⟩ := gi_of h
      refine x_iald hX dX6_listLargestGap_83 (fo_6_7 (gk hX) h0) b_13 rfl ?_
      refine x_iconst hX dX6_listLargestGap_84 ?_
      obtain ⟨M_15, er_14, h⟩ := cl1_of h
      refine x_callVv (t := 6) (As := [vr (xG X) a1, vi (z_12 (th + 5) (ix ((z_12 th 6) - 1))), vi 1]) (rest := []) hX dX6_listLargestGap_85 (c_X6_visitFrom (gk hX) (gl hX) h0 h1 (z_12 (th + 5) (ix ((z_12 th 6) - 1))) 1 z_12 _ er_14) kX6_visitFrom vX6_visitFrom w_1467 h0 rfl rfl rfl rfl (Nat.le_of_ble_eq_true rfl) z0 ?_
      refine x_aloadn hX dX6_listLargestGap_88 rfl ?_
      refine x_getI hX dX6_listLargestGap_89 fl_X6_107 rfl h0 ?_
      refine x_iconst hX dX6_listLargestGap_92 ?_
      refine x_isub hX dX6_listLargestGap_93 ?_
      obtain ⟨x2_16, ex2_16, h⟩ := bnd_of h
      refine x_istoren (ls' := [some (vr (xG X) th), some (vr (xG X) a1), some (vi x2_16)]) hX dX6_listLargestGap_94 rfl ex2_16 rfl ?_
      refine x_weak (ls' := [some (vr (xG X) th), some (vr (xG X) a1), some (vi x2_16)]) [true, true, true] rfl ?_
      refine lp_use (x := (x2_16, M_15)) (P := fun x => V X 0 0 (Qn X none Mr) 95 [some (vr (xG X) th), some (vr (xG X) a1), some (vi x.1)] [] x.2) (PE := fun z_24 => V X 0 0 (Qn X none Mr) 131 [none, none, none] [] z_24) (PR := fun q => (Qn X none Mr) = Qn X none q) h (fun x o hh hP hE hR => ts_X6_listLargestGap_95 hX h0 h1 x.1 x.2 o hh hP hE hR) (fun z_24 h => ?_) (fun q h => ?_)
      · show V X 0 0 (Qn X none Mr) 131 [none, none, none] [] z_24
        cases h
        exact x_vret hX dX6_listLargestGap_131 rfl
      · cases h; rfl
    · cases h; rfl
set_option maxRecDepth 100000 in
set_option maxHeartbeats 4000000 in
theorem tj_X6_listCombined_49_4 {X : Cxt} (hX : Gd X RX6 cX6_listCombined 4 (none) 4) {th : Nat} (h0 : at_ (xG X) th 16 0) {a1 : Nat} (h1 : at_ (xG X) a1 11 0)  (x2 : Int) (x3 : Int) (M : Mem) {Q : State → Prop} (o : (Int × Int × Mem) ⊕ ((Mem) ⊕ (Mem))) (h : j_X6_listCombined_49_4 th a1 x2 x3 M = some o) (hP : ∀ y, o = .inl y → V X 0 0 Q 4 [some (vr (xG X) th), some (vr (xG X) a1), some (vi y.1), some (vi y.2.1)] [] y.2.2) (hE : ∀ z, o = .inr (.inl z) → V X 0 0 Q 55 [none, none, none, none] [] z) (hR : ∀ q, o = .inr (.inr q) → Q = Qn X none q) : V X 0 0 Q 49 [some (vr (xG X) th), some (vr (xG X) a1), some (vi x2), some (vi x3)] [] M := by
  unfold j_X6_listCombined_49_4 at h
  obtain ⟨x3_8, ex3_8, h⟩ := bnd_of h
  refine x_iinc (ls' := [some (vr (xG X) th), some (vr (xG X) a1), some (vi x2), some (vi x3_8)]) hX dX6_listCombined_49 rfl rfl ex3_8 rfl ?_
  refine x_goto (tgt := 4) hX dX6_listCombined_52 (by decide) ?_
  exact x_weak [true, true, true, true] rfl (hP (x2, x3_8, M) (Option.some.inj h).symm)
set_option maxRecDepth 100000 in
set_option maxHeartbeats 4000000 in
theorem tj_X6_listCombined_48_4 {X : Cxt} (hX : Gd X RX6 cX6_listCombined 4 (none) 4) {th : Nat} (h0 : at_ (xG X) th 16 0) {a1 : Nat} (h1 : at_ (xG X) a1 11 0)  (x3 : Int) (y0 : Int) (M : Mem) {Q : State → Prop} (o : (Int × Int × Mem) ⊕ ((Mem) ⊕ (Mem))) (h : j_X6_listCombined_48_4 th a1 x3 y0 M = some o) (hP : ∀ y, o = .inl y → V X 0 0 Q 4 [some (vr (xG X) th), some (vr (xG X) a1), some (vi y.1), some (vi y.2.1)] [] y.2.2) (hE : ∀ z, o = .inr (.inl z) → V X 0 0 Q 55 [none, none, none, none] [] z) (hR : ∀ q, o = .inr (.inr q) → Q = Qn X none q) : V X 0 0 Q 48 [some (vr (xG X) th), some (vr (xG X) a1), none, some (vi x3)] [vi y0] M := by
  unfold j_X6_listCombined_48_4 at h
  refine x_istoren (ls' := [some (vr (xG X) th), some (vr (xG X) a1), some (vi y0), some (vi x3)]) hX dX6_listCombined_48 rfl rfl rfl ?_
  exact x_weak [true, true, true, true] rfl (tj_X6_listCombined_49_4 hX h0 h1 y0 x3 M o h hP hE hR)
set_option maxRecDepth 100000 in
set_option maxHeartbeats 4000000 in
theorem ts_X6_listCombined_4 {X : Cxt} (hX : Gd X RX6 cX6_listCombined 4 (none) 4) {th : Nat} (h0 : at_ (xG X) th 16 0) {a1 : Nat} (h1 : at_ (xG X) a1 11 0) (x2 : Int) (x3 : Int) (M : Mem) {Q : State → Prop} (o : (Int × Int × Mem) ⊕ ((Mem) ⊕ (Mem))) (h : s_X6_listCombined_4 th a1 x2 x3 M = some o) (hP : ∀ y, o = .inl y → V X 0 0 Q 4 [some (vr (xG X) th), some (vr (xG X) a1), some (vi y.1), some (vi y.2.1)] [] y.2.2) (hE : ∀ z, o = .inr (.inl z) → V X 0 0 Q 55 [none, none, none, none] [] z) (hR : ∀ q, o = .inr (.inr q) → Q = Qn X none q) : V X 0 0 Q 4 [some (vr (xG X) th), some (vr (xG X) a1), some (vi x2), some (vi x3)] [] M := by
  unfold s_X6_listCombined_4 at h
  refine x_iloadn hX dX6_listCombined_4 rfl ?_
  refine x_aloadn hX dX6_listCombined_5 rfl ?_
  refine x_getI hX dX6_listCombined_6 fl_X6_107 rfl h0 ?_
  refine x_icmp_ge (tgt := 55) hX dX6_listCombined_9 (by decide) rfl rfl (fun hc => ?_) (fun hc => ?_)
  · replace h := (if_pos hc).symm.trans h
    refine x_aloadn hX dX6_listCombined_12 rfl ?_
    refine x_aloadn hX dX6_listCombined_13 rfl ?_
    refine x_aloadn hX dX6_listCombined_14 rfl ?_
    refine x_getRj (j := th + 5) hX dX6_listCombined_15 fl_X6_24 rfl h0 rfl ?_
    refine x_iloadn hX dX6_listCombined_18 rfl ?_
    obtain ⟨b_1, h⟩ := gi_of h
    refine x_iald hX dX6_listCombined_19 (fo_6_7 (gk hX) h0) b_1 rfl ?_
    refine x_iloadn hX dX6_listCombined_20 rfl ?_
    obtain ⟨M_3, er_2, h⟩ := cl1_of h
    refine x_callVv (t := 6) (As := [vr (xG X) a1, vi (M (th + 5) (ix x3)), vi x2]) (rest := []) hX dX6_listCombined_21 (c_X6_visitFrom (gk hX) (gl hX) h0 h1 (M (th + 5) (ix x3)) x2 M _ er_2) kX6_visitFrom vX6_visitFrom w_1467 h0 rfl rfl rfl rfl (Nat.le_of_ble_eq_true rfl) z0 ?_
    refine x_aloadn hX dX6_listCombined_24 rfl ?_
    refine x_iloadn hX dX6_listCombined_25 rfl ?_
    refine x_iloadn hX dX6_listCombined_26 rfl ?_
    obtain ⟨r_4, er_4, h⟩ := cl1_of h
    refine x_callVi (t := 6) (As := [vi x3, vi x2]) (rest := []) hX dX6_listCombined_27 (c_X6_crossingCost (gk hX) (gl hX) h0 x3 x2 M_3 _ er_4) kX6_crossingCost vX6_crossingCost w_663 h0 rfl rfl rfl rfl (Nat.le_of_ble_eq_true rfl) z0 ?_
    refine x_aloadn hX dX6_listCombined_30 rfl ?_
    refine x_iloadn hX dX6_listCombined_31 rfl ?_
    refine x_iloadn hX dX6_listCombined_32 rfl ?_
    obtain ⟨r_6, er_6, h⟩ := cl1_of h
    refine x_callVi (t := 6) (As := [vi x3, vi x2]) (rest := [vi r_4]) hX dX6_listCombined_33 (c_X6_stayingCost (gk hX) (gl hX) h0 x3 x2 M_3 _ er_6) kX6_stayingCost vX6_stayingCost w_659 h0 rfl rfl rfl rfl (Nat.le_of_ble_eq_true rfl) z0 ?_
    refine x_icmp_ge (tgt := 49) hX dX6_listCombined_36 (by decide) rfl rfl (fun hc => ?_) (fun hc => ?_)
    · replace h := (if_pos hc).symm.trans h
      refine x_iloadn hX dX6_listCombined_39 rfl ?_
      refine x_if_ne (tgt := 47) hX dX6_listCombined_40 (by decide) rfl (fun hc => ?_) (fun hc => ?_)
      · replace h := (if_pos hc).symm.trans h
        refine x_iconst hX dX6_listCombined_43 ?_
        refine x_goto (tgt := 48) hX dX6_listCombined_44 (by decide) ?_
        exact x_weak [true, true, false, true] rfl (tj_X6_listCombined_48_4 hX h0 h1 x3 1 M_3 o h hP hE hR)
      · replace h := (if_neg hc).symm.trans h
        refine x_iconst hX dX6_listCombined_47 ?_
        exact x_weak [true, true, false, true] rfl (tj_X6_listCombined_48_4 hX h0 h1 x3 0 M_3 o h hP hE hR)
    · replace h := (if_neg hc).symm.trans h
      exact x_weak [true, true, true, true] rfl (tj_X6_listCombined_49_4 hX h0 h1 x2 x3 M_3 o h hP hE hR)
  · replace h := (if_neg hc).symm.trans h
    exact x_weak [false, false, false, false] rfl (hE M (Option.some.inj h).symm)
set_option maxRecDepth 100000 in
set_option maxHeartbeats 4000000 in
theorem c_X6_listCombined {l : Launch} {G : Gx} (hG : GOK G) (hl : l.stackTraces = false) {th : Nat} (h0 : at_ G th 16 0) {a1 : Nat} (h1 : at_ G a1 11 0) (M : Mem) (Mr : Mem) (h : f_X6_listCombined th a1 M = some Mr) : Cn l G mX6_listCombined 4 [vr G th, vr G a1] M none Mr := by
  refine Cn_of2 (ls := [some (vr G th), some (vr G a1), none, none]) hG hl kX6_listCombined rfl (Nat.le_of_ble_eq_true rfl) rfl rfl rfl rfl rfl (fun X eG el hX => ?_)
  subst eG; subst el
  unfold f_X6_listCombined at h
  refine x_iconst hX dX6_listCombined_0 ?_
  refine x_istoren (ls' := [some (vr (xG X) th), some (vr (xG X) a1), some (vi 0), none]) hX dX6_listCombined_1 rfl rfl rfl ?_
  refine x_iconst hX dX6_listCombined_2 ?_
  refine x_istoren (ls' := [some (vr (xG X) th), some (vr (xG X) a1), some (vi 0), some (vi 0)]) hX dX6_listCombined_3 rfl rfl rfl ?_
  refine x_weak (ls' := [some (vr (xG X) th), some (vr (xG X) a1), some (vi 0), some (vi 0)]) [true, true, true, true] rfl ?_
  refine lp_use (x := (0, 0, M)) (P := fun x => V X 0 0 (Qn X none Mr) 4 [some (vr (xG X) th), some (vr (xG X) a1), some (vi x.1), some (vi x.2.1)] [] x.2.2) (PE := fun z_9 => V X 0 0 (Qn X none Mr) 55 [none, none, none, none] [] z_9) (PR := fun q => (Qn X none Mr) = Qn X none q) h (fun x o hh hP hE hR => ts_X6_listCombined_4 hX h0 h1 x.1 x.2.1 x.2.2 o hh hP hE hR) (fun z_9 h => ?_) (fun q h => ?_)
  · show V X 0 0 (Qn X none Mr) 55 [none, none, none, none] [] z_9
    cases h
    exact x_vret hX dX6_listCombined_55 rfl
  · cases h; rfl
set_option maxRecDepth 100000 in
set_option maxHeartbeats 4000000 in
theorem tj_X7_measureWork_107_38 {X : Cxt} (hX : Gd X RX7 cX7_measureWork 7 (none) 4) {th : Nat} (h0 : at_ (xG X) th 17 0) {a1 : Nat} (h1 : at_ (xG X) a1 11 0) {q0 : Nat} (hq0 : at_ (xG X) q0 1 3) (x3 : Int) (x4 : Int) (y1 : Int) (y2 : Int) (M : Mem) {Q : State → Prop} (o : (Int × Mem) ⊕ ((Mem) ⊕ (Mem))) (h : j_X7_measureWork_107_38 th a1 q0 x3 x4 y1 y2 M = some o) (hP : ∀ y, o = .inl y → V X 0 0 Q 38 [some (vr (xG X) th), some (vr (xG X) a1), some (vr (xG X) (a1 + 1)), some (vi x3), some (vi y.1), none, none] [] y.2) (hE : ∀ z, o = .inr (.inl z) → V X 0 0 Q 114 [some (vr (xG X) th), some (vr (xG X) a1), some (vr (xG X) (a1 + 1)), some (vi x3), none, none, none] [] z) (hR : ∀ q, o = .inr (.inr q) → Q = Qn X none q) : V X 0 0 Q 107 [some (vr (xG X) th), some (vr (xG X) a1), some (vr (xG X) (a1 + 1)), some (vi x3), some (vi x4), none, none] [vi y2, vi y1, vr (xG X) q0] M := by
  unfold j_X7_measureWork_107_38 at h
  obtain ⟨b_10, h⟩ := gi_of h
  obtain ⟨M_9, eM_9, h⟩ := bnd_of h
  refine x_iast hX dX7_measureWork_107 hq0 b_10 rfl (x_meq eM_9 ?_)
  obtain ⟨x4_11, ex4_11, h⟩ := bnd_of h
  refine x_iinc (ls' := [some (vr (xG X) th), some (vr (xG X) a1), some (vr (xG X) (a1 + 1)), some (vi x3), some (vi x4_11), none, none]) hX dX7_measureWork_108 rfl rfl ex4_11 rfl ?_
  refine x_goto (tgt := 38) hX dX7_measureWork_111 (by decide) ?_
  exact x_weak [true, true, true, true, true, false, false] rfl (hP (x4_11, M_9) (Option.some.inj h).symm)
set_option maxRecDepth 100000 in
set_option maxHeartbeats 4000000 in
theorem ts_X7_measureWork_38 {X : Cxt} (hX : Gd X RX7 cX7_measureWork 7 (none) 4) {th : Nat} (h0 : at_ (xG X) th 17 0) {a1 : Nat} (h1 : at_ (xG X) a1 11 0) (x3 : Int) (x4 : Int) (M : Mem) {Q : State → Prop} (o : (Int × Mem) ⊕ ((Mem) ⊕ (Mem))) (h : s_X7_measureWork_38 th a1 x3 x4 M = some o) (hP : ∀ y, o = .inl y → V X 0 0 Q 38 [some (vr (xG X) th), some (vr (xG X) a1), some (vr (xG X) (a1 + 1)), some (vi x3), some (vi y.1), none, none] [] y.2) (hE : ∀ z, o = .inr (.inl z) → V X 0 0 Q 114 [some (vr (xG X) th), some (vr (xG X) a1), some (vr (xG X) (a1 + 1)), some (vi x3), none, none, none] [] z) (hR : ∀ q, o = .inr (.inr q) → Q = Qn X none q) : V X 0 0 Q 38 [some (vr (xG X) th), some (vr (xG X) a1), some (vr (xG X) (a1 + 1)), some (vi x3), some (vi x4), none, none] [] M := by
  unfold s_X7_measureWork_38 at h
  refine x_iload hX dX7_measureWork_38 rfl ?_
  refine x_aloadn hX dX7_measureWork_40 rfl ?_
  refine x_getI hX dX7_measureWork_41 fl_X7_53 rfl (fo_1_0 (gk hX) h1) ?_
  refine x_icmp_ge (tgt := 114) hX dX7_measureWork_44 (by decide) rfl rfl (fun hc => ?_) (fun hc => ?_)
  · replace h := (if_pos hc).symm.trans h
    refine x_aloadn hX dX7_measureWork_47 rfl ?_
    refine x_getRj (j := th + 28) hX dX7_measureWork_48 fl_X7_25 rfl h0 rfl ?_
    refine x_aloadn hX dX7_measureWork_51 rfl ?_
    refine x_iload hX dX7_measureWork_52 rfl ?_
    obtain ⟨r_4, er_4, h⟩ := cl1_of h
    refine x_callVi (t := 6) (As := [vr (xG X) (a1 + 1), vi x4]) (rest := []) hX dX7_measureWork_54 (c_X6_itemsIn (gk hX) (gl hX) (fo_7_3 (gk hX) h0) (fo_1_0 (gk hX) h1) x4 M _ er_4) kX6_itemsIn vX6_itemsIn w_680 (fo_7_3 (gk hX) h0) rfl rfl rfl rfl (Nat.le_of_ble_eq_true rfl) z0 ?_
    refine x_istore (ls' := [some (vr (xG X) th), some (vr (xG X) a1), some (vr (xG X) (a1 + 1)), some (vi x3), some (vi x4), some (vi r_4), none]) hX dX7_measureWork_57 rfl rfl rfl ?_
    refine x_aloadn hX dX7_measureWork_59 rfl ?_
    refine x_getRj (j := th + 28) hX dX7_measureWork_60 fl_X7_25 rfl h0 rfl ?_
    refine x_aloadn hX dX7_measureWork_63 rfl ?_
    refine x_iload hX dX7_measureWork_64 rfl ?_
    refine x_aloadn hX dX7_measureWork_66 rfl ?_
    refine x_getI hX dX7_measureWork_67 fl_X7_62 rfl (fo_1_0 (gk hX) h1) ?_
    obtain ⟨r_6, M_7, er_6, h⟩ := cl2_of h
    refine x_callVi (t := 6) (As := [vr (xG X) (a1 + 1), vi x4, vi (M (a1 + 1) 5)]) (rest := []) hX dX7_measureWork_70 (c_X6_lengthIn (gk hX) (gl hX) (fo_7_3 (gk hX) h0) (fo_1_0 (gk hX) h1) x4 (M (a1 + 1) 5) M _ _ er_6) kX6_lengthIn vX6_lengthIn w_684 (fo_7_3 (gk hX) h0) rfl rfl rfl rfl (Nat.le_of_ble_eq_true rfl) z0 ?_
    refine x_istore (ls' := [some (vr (xG X) th), some (vr (xG X) a1), some (vr (xG X) (a1 + 1)), some (vi x3), some (vi x4), some (vi r_4), some (vi r_6)]) hX dX7_measureWork_73 rfl rfl rfl ?_
    refine x_aloadn hX dX7_measureWork_75 rfl ?_
    refine x_getRj (j := th + 1) hX dX7_measureWork_76 fl_X7_11 rfl h0 rfl ?_
    refine x_iloadn hX dX7_measureWork_79 rfl ?_
    obtain ⟨b_8, h⟩ := gi_of h
    refine x_aald2 hX dX7_measureWork_80 (fo_7_0 (gk hX) h0) b_8 ?_
    refine x_iload hX dX7_measureWork_81 rfl ?_
    refine x_iload hX dX7_measureWork_83 rfl ?_
    refine x_if_ne (tgt := 92) hX dX7_measureWork_85 (by decide) rfl (fun hc => ?_) (fun hc => ?_)
    · replace h := (if_pos hc).symm.trans h
      refine x_iconst hX dX7_measureWork_88 ?_
      refine x_goto (tgt := 107) hX dX7_measureWork_89 (by decide) ?_
      exact x_weak [true, true, true, true, true, false, false] rfl (tj_X7_measureWork_107_38 hX h0 h1 (ro (gk hX) (fo_7_0 (gk hX) h0) b_8) x3 x4 x4 0 M_7 o h hP hE hR)
    · replace h := (if_neg hc).symm.trans h
      refine x_aloadn hX dX7_measureWork_92 rfl ?_
      refine x_getI hX dX7_measureWork_93 fl_X7_69 rfl (fo_1_0 (gk hX) h1) ?_
      refine x_iload hX dX7_measureWork_96 rfl ?_
      refine x_iadd hX dX7_measureWork_98 ?_
      refine x_aloadn hX dX7_measureWork_99 rfl ?_
      refine x_getI hX dX7_measureWork_100 fl_X7_72 rfl (fo_1_0 (gk hX) h1) ?_
      refine x_iload hX dX7_measureWork_103 rfl ?_
      refine x_imul hX dX7_measureWork_105 ?_
      refine x_iadd hX dX7_measureWork_106 ?_
      exact x_weak [true, true, true, true, true, false, false] rfl (tj_X7_measureWork_107_38 hX h0 h1 (ro (gk hX) (fo_7_0 (gk hX) h0) b_8) x3 x4 x4 (((M_7 (a1 + 1) 6) + r_6) + ((M_7 (a1 + 1) 7) * r_4)) M_7 o h hP hE hR)
  · replace h := (if_neg hc).symm.trans h
    exact x_weak [true, true, true, true, false, false, false] rfl (hE M (Option.some.inj h).symm)
set_option maxRecDepth 100000 in
set_option maxHeartbeats 4000000 in
theorem ts_X7_measureWork_7 {X : Cxt} (hX : Gd X RX7 cX7_measureWork 7 (none) 4) {th : Nat} (h0 : at_ (xG X) th 17 0) {a1 : Nat} (h1 : at_ (xG X) a1 11 0) (x3 : Int) (M : Mem) {Q : State → Prop} (o : (Int × Mem) ⊕ ((Mem) ⊕ (Mem))) (h : s_X7_measureWork_7 th a1 x3 M = some o) (hP : ∀ y, o = .inl y → V X 0 0 Q 7 [some (vr (xG X) th), some (vr (xG X) a1), some (vr (xG X) (a1 + 1)), some (vi y.1), none, none, none] [] y.2) (hE : ∀ z, o = .inr (.inl z) → V X 0 0 Q 120 [none, none, none, none, none, none, none] [] z) (hR : ∀ q, o = .inr (.inr q) → Q = Qn X none q) : V X 0 0 Q 7 [some (vr (xG X) th), some (vr (xG X) a1), some (vr (xG X) (a1 + 1)), some (vi x3), none, none, none] [] M := by
  unfold s_X7_measureWork_7 at h
  refine x_iloadn hX dX7_measureWork_7 rfl ?_
  refine x_aloadn hX dX7_measureWork_8 rfl ?_
  refine x_getRj (j := a1 + 16) hX dX7_measureWork_9 fl_X7_35 rfl h1 rfl ?_
  refine x_getI hX dX7_measureWork_12 fl_X7_39 rfl (fo_1_3 (gk hX) h1) ?_
  refine x_icmp_ge (tgt := 120) hX dX7_measureWork_15 (by decide) rfl rfl (fun hc => ?_) (fun hc => ?_)
  · replace h := (if_pos hc).symm.trans h
    refine x_aloadn hX dX7_measureWork_18 rfl ?_
    refine x_getRj (j := th + 28) hX dX7_measureWork_19 fl_X7_25 rfl h0 rfl ?_
    refine x_aloadn hX dX7_measureWork_22 rfl ?_
    refine x_aloadn hX dX7_measureWork_23 rfl ?_
    refine x_getRj (j := a1 + 16) hX dX7_measureWork_24 fl_X7_35 rfl h1 rfl ?_
    refine x_getRj (j := a1 + 16 + 1) hX dX7_measureWork_27 fl_X7_45 rfl (fo_1_3 (gk hX) h1) rfl ?_
    refine x_iloadn hX dX7_measureWork_30 rfl ?_
    obtain ⟨b_1, h⟩ := gi_of h
    refine x_iald hX dX7_measureWork_31 (fo_0_1 (gk hX) (fo_1_3 (gk hX) h1)) b_1 rfl ?_
    obtain ⟨M_3, er_2, h⟩ := cl1_of h
    refine x_callVv (t := 6) (As := [vr (xG X) a1, vi (M (a1 + 16 + 1) (ix x3))]) (rest := []) hX dX7_measureWork_32 (c_X6_survey (gk hX) (gl hX) (fo_7_3 (gk hX) h0) h1 (M (a1 + 16 + 1) (ix x3)) M _ er_2) kX6_survey vX6_survey w_679 (fo_7_3 (gk hX) h0) rfl rfl rfl rfl (Nat.le_of_ble_eq_true rfl) z0 ?_
    refine x_iconst hX dX7_measureWork_35 ?_
    refine x_istore (ls' := [some (vr (xG X) th), some (vr (xG X) a1), some (vr (xG X) (a1 + 1)), some (vi x3), some (vi 0), none, none]) hX dX7_measureWork_36 rfl rfl rfl ?_
    refine x_weak (ls' := [some (vr (xG X) th), some (vr (xG X) a1), some (vr (xG X) (a1 + 1)), some (vi x3), some (vi 0), none, none]) [true, true, true, true, true, false, false] rfl ?_
    refine lp_use (x := (0, M_3)) (P := fun x => V X 0 0 Q 38 [some (vr (xG X) th), some (vr (xG X) a1), some (vr (xG X) (a1 + 1)), some (vi x3), some (vi x.1), none, none] [] x.2) (PE := fun z_12 => V X 0 0 Q 114 [some (vr (xG X) th), some (vr (xG X) a1), some (vr (xG X) (a1 + 1)), some (vi x3), none, none, none] [] z_12) (PR := fun q => Q = Qn X none q) h (fun x o hh hP hE hR => ts_X7_measureWork_38 hX h0 h1 x3 x.1 x.2 o hh hP hE hR) (fun z_12 h => ?_) (fun q h => ?_)
    · show V X 0 0 Q 114 [some (vr (xG X) th), some (vr (xG X) a1), some (vr (xG X) (a1 + 1)), some (vi x3), none, none, none] [] z_12
      obtain ⟨x3_13, ex3_13, h⟩ := bnd_of h
      refine x_iinc (ls' := [some (vr (xG X) th), some (vr (xG X) a1), some (vr (xG X) (a1 + 1)), some (vi x3_13), none, none, none]) hX dX7_measureWork_114 rfl rfl ex3_13 rfl ?_
      refine x_goto (tgt := 7) hX dX7_measureWork_117 (by decide) ?_
      exact x_weak [true, true, true, true, false, false, false] rfl (hP (x3_13, z_12) (Option.some.inj h).symm)
    · exact hR q (Option.some.inj h).symm
  · replace h := (if_neg hc).symm.trans h
    exact x_weak [false, false, false, false, false, false, false] rfl (hE M (Option.some.inj h).symm)
set_option maxRecDepth 100000 in
set_option maxHeartbeats 4000000 in
theorem c_X7_measureWork {l : Launch} {G : Gx} (hG : GOK G) (hl : l.stackTraces = false) {th : Nat} (h0 : at_ G th 17 0) {a1 : Nat} (h1 : at_ G a1 11 0) (M : Mem) (Mr : Mem) (h : f_X7_measureWork th a1 M = some Mr) : Cn l G mX7_measureWork 4 [vr G th, vr G a1] M none Mr := by
  refine Cn_of2 (ls := [some (vr G th), some (vr G a1), none, none, none, none, none]) hG hl kX7_measureWork rfl (Nat.le_of_ble_eq_true rfl) rfl rfl rfl rfl rfl (fun X eG el hX => ?_)
  subst eG; subst el
  unfold f_X7_measureWork at h
  refine x_aloadn hX dX7_measureWork_0 rfl ?_
  refine x_getRj (j := a1 + 1) hX dX7_measureWork_1 fl_X7_29 rfl h1 rfl ?_
  refine x_astoren (ls' := [some (vr (xG X) th), some (vr (xG X) a1), some (vr (xG X) (a1 + 1)), none, none, none, none]) hX dX7_measureWork_4 rfl rfl ?_
  refine x_iconst hX dX7_measureWork_5 ?_
  refine x_istoren (ls' := [some (vr (xG X) th), some (vr (xG X) a1), some (vr (xG X) (a1 + 1)), some (vi 0), none, none, none]) hX dX7_measureWork_6 rfl rfl rfl ?_
  refine x_weak (ls' := [some (vr (xG X) th), some (vr (xG X) a1), some (vr (xG X) (a1 + 1)), some (vi 0), none, none, none]) [true, true, true, true, false, false, false] rfl ?_
  refine lp_use (x := (0, M)) (P := fun x => V X 0 0 (Qn X none Mr) 7 [some (vr (xG X) th), some (vr (xG X) a1), some (vr (xG X) (a1 + 1)), some (vi x.1), none, none, none] [] x.2) (PE := fun z_14 => V X 0 0 (Qn X none Mr) 120 [none, none, none, none, none, none, none] [] z_14) (PR := fun q => (Qn X none Mr) = Qn X none q) h (fun x o hh hP hE hR => ts_X7_measureWork_7 hX h0 h1 x.1 x.2 o hh hP hE hR) (fun z_14 h => ?_) (fun q h => ?_)
  · show V X 0 0 (Qn X none Mr) 120 [none, none, none, none, none, none, none] [] z_14
    cases h
    exact x_vret hX dX7_measureWork_120 rfl
  · cases h; rfl
set_option maxRecDepth 100000 in
set_option maxHeartbeats 4000000 in
theorem ts_X8_makeAll_48 {X : Cxt} (hX : Gd X RX8 cX8_makeAll 8 (some .int) 4) {a0 : Nat} (h0 : at_ (xG X) a0 11 0) (x1 : Int) (x2 : Int) (x3 : Int) (x4 : Int) (x5 : Int) (M : Mem) (x6 : Int) (x7 : Int) {Q : State → Prop} (o : (Int × Int) ⊕ ((Int) ⊕ (Int × Mem))) (h : s_X8_makeAll_48 a0 x1 x2 x3 x4 x5 M x6 x7 = some o) (hP : ∀ y, o = .inl y → V X 0 0 Q 48 [some (vr (xG X) a0), some (vi x1), some (vi x2), some (vi x3), some (vi x4), some (vi x5), some (vi y.1), some (vi y.2)] [] M) (hE : ∀ z, o = .inr (.inl z) → V X 0 0 Q 79 [some (vr (xG X) a0), some (vi x1), some (vi x2), some (vi x3), some (vi x4), some (vi x5), some (vi z), none] [] M) (hR : ∀ q, o = .inr (.inr q) → Q = Qn X (some (vi q.1)) q.2) : V X 0 0 Q 48 [some (vr (xG X) a0), some (vi x1), some (vi x2), some (vi x3), some (vi x4), some (vi x5), some (vi x6), some (vi x7)] [] M := by
  unfold s_X8_makeAll_48 at h
  refine x_iload hX dX8_makeAll_48 rfl ?_
  refine x_iloadn hX dX8_makeAll_50 rfl ?_
  refine x_icmp_ge (tgt := 79) hX dX8_makeAll_51 (by decide) rfl rfl (fun hc => ?_) (fun hc => ?_)
  · replace h := (if_pos hc).symm.trans h
    refine x_iload hX dX8_makeAll_54 rfl ?_
    refine x_aloadn hX dX8_makeAll_56 rfl ?_
    refine x_iload hX dX8_makeAll_57 rfl ?_
    refine x_iload hX dX8_makeAll_59 rfl ?_
    refine x_iload hX dX8_makeAll_61 rfl ?_
    refine x_iconst hX dX8_makeAll_63 ?_
    refine x_ixor hX dX8_makeAll_64 ?_
    refine x_iand hX dX8_makeAll_65 ?_
    refine x_iloadn hX dX8_makeAll_66 rfl ?_
    obtain ⟨r_6, er_6, h⟩ := cl1_of h
    refine x_callSi (As := [vr (xG X) a0, vi x6, vi (i_and x4 (i_xor x6 (-1))), vi x2]) (rest := [vi x6]) hX dX8_makeAll_67 (c_X8_companionFor (gk hX) (gl hX) h0 x6 (i_and x4 (i_xor x6 (-1))) x2 M _ er_6) kX8_companionFor sX8_companionFor w_1243 rfl rfl rfl (Nat.le_of_ble_eq_true rfl) z0 ?_
    refine x_ior hX dX8_makeAll_70 ?_
    obtain ⟨x6_8, ex6_8, h⟩ := bnd_of h
    refine x_istore (ls' := [some (vr (xG X) a0), some (vi x1), some (vi x2), some (vi x3), some (vi x4), some (vi x5), some (vi x6_8), some (vi x7)]) hX dX8_makeAll_71 rfl ex6_8 rfl ?_
    obtain ⟨x7_9, ex7_9, h⟩ := bnd_of h
    refine x_iinc (ls' := [some (vr (xG X) a0), some (vi x1), some (vi x2), some (vi x3), some (vi x4), some (vi x5), some (vi x6_8), some (vi x7_9)]) hX dX8_makeAll_73 rfl rfl ex7_9 rfl ?_
    refine x_goto (tgt := 48) hX dX8_makeAll_76 (by decide) ?_
    exact x_weak [true, true, true, true, true, true, true, true] rfl (hP (x6_8, x7_9) (Option.some.inj h).symm)
  · replace h := (if_neg hc).symm.trans h
    exact x_weak [true, true, true, true, true, true, true, false] rfl (hE x6 (Option.some.inj h).symm)
set_option maxRecDepth 100000 in
set_option maxHeartbeats 4000000 in
theorem ts_X8_makeAll_10 {X : Cxt} (hX : Gd X RX8 cX8_makeAll 8 (some .int) 4) {a0 : Nat} (h0 : at_ (xG X) a0 11 0) (x1 : Int) (x2 : Int) (x3 : Int) (x4 : Int) (x5 : Int) (M : Mem) {Q : State → Prop} (o : (Int × Int × Mem) ⊕ ((Int × Mem) ⊕ (Int × Mem))) (h : s_X8_makeAll_10 a0 x1 x2 x3 x4 x5 M = some o) (hP : ∀ y, o = .inl y → V X 0 0 Q 10 [some (vr (xG X) a0), some (vi x1), some (vi x2), some (vi x3), some (vi y.1), some (vi y.2.1), none, none] [] y.2.2) (hE : ∀ z, o = .inr (.inl z) → V X 0 0 Q 101 [none, none, none, none, none, some (vi z.1), none, none] [] z.2) (hR : ∀ q, o = .inr (.inr q) → Q = Qn X (some (vi q.1)) q.2) : V X 0 0 Q 10 [some (vr (xG X) a0), some (vi x1), some (vi x2), some (vi x3), some (vi x4), some (vi x5), none, none] [] M := by
  unfold s_X8_makeAll_10 at h
  refine x_iload hX dX8_makeAll_10 rfl ?_
  refine x_bipush hX dX8_makeAll_12 bp_8 ?_
  refine x_icmp_ge (tgt := 101) hX dX8_makeAll_14 (by decide) rfl cw_8 (fun hc => ?_) (fun hc => ?_)
  · replace h := (if_pos hc).symm.trans h
    refine x_iload hX dX8_makeAll_17 rfl ?_
    refine x_if_eq (tgt := 101) hX dX8_makeAll_19 (by decide) rfl (fun hc => ?_) (fun hc => ?_)
    · replace h := (if_pos hc).symm.trans h
      exact x_weak [false, false, false, false, false, true, false, false] rfl (hE (x5, M) (Option.some.inj h).symm)
    · replace h := (if_neg hc).symm.trans h
      refine x_aloadn hX dX8_makeAll_22 rfl ?_
      refine x_getRj (j := a0 + 16) hX dX8_makeAll_23 fl_X8_15 rfl h0 rfl ?_
      refine x_getI hX dX8_makeAll_26 fl_X8_21 rfl (fo_1_3 (gk hX) h0) ?_
      refine x_bipush hX dX8_makeAll_29 bp_8 ?_
      refine x_icmp_ge (tgt := 101) hX dX8_makeAll_31 (by decide) rfl cw_8 (fun hc => ?_) (fun hc => ?_)
      · replace h := (if_pos hc).symm.trans h
        refine x_iconst hX dX8_makeAll_34 ?_
        refine x_aloadn hX dX8_makeAll_35 rfl ?_
        refine x_iload hX dX8_makeAll_36 rfl ?_
        refine x_iloadn hX dX8_makeAll_38 rfl ?_
        obtain ⟨r_3, er_3, h⟩ := cl1_of h
        refine x_callSi (As := [vr (xG X) a0, vi x4, vi x3]) (rest := [vi 1]) hX dX8_makeAll_39 (c_X8_seedAmong (gk hX) (gl hX) h0 x4 x3 M _ er_3) kX8_seedAmong sX8_seedAmong w_1230 rfl rfl rfl (Nat.le_of_ble_eq_true rfl) z0 ?_
        refine x_ishl hX dX8_makeAll_42 ?_
        obtain ⟨x6_5, ex6_5, h⟩ := bnd_of h
        refine x_istore (ls' := [some (vr (xG X) a0), some (vi x1), some (vi x2), some (vi x3), some (vi x4), some (vi x5), some (vi x6_5), none]) hX dX8_makeAll_43 rfl ex6_5 rfl ?_
        refine x_iconst hX dX8_makeAll_45 ?_
        refine x_istore (ls' := [some (vr (xG X) a0), some (vi x1), some (vi x2), some (vi x3), some (vi x4), some (vi x5), some (vi x6_5), some (vi 1)]) hX dX8_makeAll_46 rfl rfl rfl ?_
        refine x_weak (ls' := [some (vr (xG X) a0), some (vi x1), some (vi x2), some (vi x3), some (vi x4), some (vi x5), some (vi x6_5), some (vi 1)]) [true, true, true, true, true, true, true, true] rfl ?_
        refine lp_use (x := (x6_5, 1)) (P := fun x => V X 0 0 Q 48 [some (vr (xG X) a0), some (vi x1), some (vi x2), some (vi x3), some (vi x4), some (vi x5), some (vi x.1), some (vi x.2)] [] M) (PE := fun z_10 => V X 0 0 Q 79 [some (vr (xG X) a0), some (vi x1), some (vi x2), some (vi x3), some (vi x4), some (vi x5), some (vi z_10), none] [] M) (PR := fun q => Q = Qn X (some (vi q.1)) q.2) h (fun x o hh hP hE hR => ts_X8_makeAll_48 hX h0 x1 x2 x3 x4 x5 M x.1 x.2 o hh hP hE hR) (fun z_10 h => ?_) (fun q h => ?_)
        · show V X 0 0 Q 79 [some (vr (xG X) a0), some (vi x1), some (vi x2), some (vi x3), some (vi x4), some (vi x5), some (vi z_10), none] [] M
          refine x_iload hX dX8_makeAll_79 rfl ?_
          refine x_iload hX dX8_makeAll_81 rfl ?_
          refine x_iconst hX dX8_makeAll_83 ?_
          refine x_ixor hX dX8_makeAll_84 ?_
          refine x_iand hX dX8_makeAll_85 ?_
          obtain ⟨x4_11, ex4_11, h⟩ := bnd_of h
          refine x_istore (ls' := [some (vr (xG X) a0), some (vi x1), some (vi x2), some (vi x3), some (vi x4_11), some (vi x5), some (vi z_10), none]) hX dX8_makeAll_86 rfl ex4_11 rfl ?_
          refine x_aloadn hX dX8_makeAll_88 rfl ?_
          refine x_iload hX dX8_makeAll_89 rfl ?_
          obtain ⟨r_12, M_13, er_12, h⟩ := cl2_of h
          refine x_callVi (t := 1) (As := [vi z_10]) (rest := []) hX dX8_makeAll_91 (c_X1_openBatch (gk hX) (gl hX) h0 z_10 M _ _ er_12) kX1_openBatch vX1_openBatch w_1252 h0 rfl rfl rfl rfl (Nat.le_of_ble_eq_true rfl) z0 ?_
          refine x_pop hX dX8_makeAll_94 rfl ?_
          obtain ⟨x5_14, ex5_14, h⟩ := bnd_of h
          refine x_iinc (ls' := [some (vr (xG X) a0), some (vi x1), some (vi x2), some (vi x3), some (vi x4_11), some (vi x5_14), some (vi z_10), none]) hX dX8_makeAll_95 rfl rfl ex5_14 rfl ?_
          refine x_goto (tgt := 10) hX dX8_makeAll_98 (by decide) ?_
          exact x_weak [true, true, true, true, true, true, false, false] rfl (hP (x4_11, x5_14, M_13) (Option.some.inj h).symm)
        · exact hR q (Option.some.inj h).symm
      · replace h := (if_neg hc).symm.trans h
        exact x_weak [false, false, false, false, false, true, false, false] rfl (hE (x5, M) (Option.some.inj h).symm)
  · replace h := (if_neg hc).symm.trans h
    exact x_weak [false, false, false, false, false, true, false, false] rfl (hE (x5, M) (Option.some.inj h).symm)
set_option maxRecDepth 100000 in
set_option maxHeartbeats 4000000 in
theorem c_X8_makeAll {l : Launch} {G : Gx} (hG : GOK G) (hl : l.stackTraces = false) {a0 : Nat} (h0 : at_ G a0 11 0) (x1 : Int) (x2 : Int) (x3 : Int) (M : Mem) (r : Int) (Mr : Mem) (h : f_X8_makeAll a0 x1 x2 x3 M = some (r, Mr)) : Cn l G mX8_makeAll 4 [vr G a0, vi x1, vi x2, vi x3] M (some (vi r)) Mr := by
  refine Cn_of2 (ls := [some (vr G a0), some (vi x1), some (vi x2), some (vi x3), none, none, none, none]) hG hl kX8_makeAll rfl (Nat.le_of_ble_eq_true rfl) rfl rfl rfl rfl rfl (fun X eG el hX => ?_)
  subst eG; subst el
  unfold f_X8_makeAll at h
  refine x_aloadn hX dX8_makeAll_0 rfl ?_
  refine x_iloadn hX dX8_makeAll_1 rfl ?_
  obtain ⟨r_1, er_1, h⟩ := cl1_of h
  refine x_callSi (As := [vr (xG X) a0, vi x2]) (rest := []) hX dX8_makeAll_2 (c_X8_candidatesIn (gk hX) (gl hX) h0 x2 M _ er_1) kX8_candidatesIn sX8_candidatesIn w_1222 rfl rfl rfl (Nat.le_of_ble_eq_true rfl) z0 ?_
  refine x_istore (ls' := [some (vr (xG X) a0), some (vi x1), some (vi x2), some (vi x3), some (vi r_1), none, none, none]) hX dX8_makeAll_5 rfl rfl rfl ?_
  refine x_iconst hX dX8_makeAll_7 ?_
  refine x_istore (ls' := [some (vr (xG X) a0), some (vi x1), some (vi x2), some (vi x3), some (vi r_1), some (vi 0), none, none]) hX dX8_makeAll_8 rfl rfl rfl ?_
  refine x_weak (ls' := [some (vr (xG X) a0), some (vi x1), some (vi x2), some (vi x3), some (vi r_1), some (vi 0), none, none]) [true, true, true, true, true, true, false, false] rfl ?_
  refine lp_use (x := (r_1, 0, M)) (P := fun x => V X 0 0 (Qn X (some (vi r)) Mr) 10 [some (vr (xG X) a0), some (vi x1), some (vi x2), some (vi x3), some (vi x.1), some (vi x.2.1), none, none] [] x.2.2) (PE := fun z_15 => V X 0 0 (Qn X (some (vi r)) Mr) 101 [none, none, none, none, none, some (vi z_15.1), none, none] [] z_15.2) (PR := fun q => (Qn X (some (vi r)) Mr) = Qn X (some (vi q.1)) q.2) h (fun x o hh hP hE hR => ts_X8_makeAll_10 hX h0 x1 x2 x3 x.1 x.2.1 x.2.2 o hh hP hE hR) (fun z_15 h => ?_) (fun q h => ?_)
  · show V X 0 0 (Qn X (some (vi r)) Mr) 101 [none, none, none, none, none, some (vi z_15.1), none, none] [] z_15.2
    refine x_iload hX dX8_makeAll_101 rfl ?_
    cases h
    exact x_iret hX dX8_makeAll_103 rfl
  · cases h; rfl
set_option maxRecDepth 100000 in
set_option maxHeartbeats 4000000 in
theorem c_X10_readItem {l : Launch} {G : Gx} (hG : GOK G) (hl : l.stackTraces = false) (hs : SOK G) {a1 : Nat} (h1 : at_ G a1 11 0) (M : Mem) (r : Int) (Mr : Mem) (h : f_X10_readItem a1 M = some (r, Mr)) : Cn l G mX10_readItem 4 [vr G 38, vr G a1] M (some (vi r)) Mr := by
  refine Cn_of2 (ls := [some (vr G 38), some (vr G a1), none, none, none]) hG hl kX10_readItem rfl (Nat.le_of_ble_eq_true rfl) rfl rfl rfl rfl rfl (fun X eG el hX => ?_)
  subst eG; subst el
  unfold f_X10_readItem at h
  refine x_aloadn hX dX10_readItem_0 rfl ?_
  refine x_getRj (j := a1 + 4) hX dX10_readItem_1 fl_X10_111 rfl h1 rfl ?_
  refine x_getI hX dX10_readItem_4 fl_X10_115 rfl (fo_1_1 (gk hX) h1) ?_
  refine x_bipush hX dX10_readItem_7 bp_24 ?_
  refine x_icmp_lt (tgt := 18) hX dX10_readItem_9 (by decide) rfl cw_24 (fun hc => ?_) (fun hc => ?_)
  · replace h := (if_pos hc).symm.trans h
    refine x_aloadn hX dX10_readItem_18 rfl ?_
    refine x_iconst hX dX10_readItem_19 ?_
    refine x_aloadn hX dX10_readItem_20 rfl ?_
    refine x_getRj (j := a1 + 1) hX dX10_readItem_21 fl_X10_33 rfl h1 rfl ?_
    refine x_getI hX dX10_readItem_24 fl_X10_120 rfl (fo_1_0 (gk hX) h1) ?_
    refine x_iconst hX dX10_readItem_27 ?_
    refine x_isub hX dX10_readItem_28 ?_
    obtain ⟨r_1, M_2, er_1, h⟩ := cl2_of h
    refine x_callVi (t := 9) (As := [vi 0, vi ((M (a1 + 1) 0) - 1)]) (rest := []) hX dX10_readItem_29 (c_X10_readNumber (gk hX) (gl hX) hs 0 ((M (a1 + 1) 0) - 1) M _ _ er_1) kX10_readNumber vX10_readNumber w_853 (st38 hs) rfl rfl rfl rfl (Nat.le_of_ble_eq_true rfl) z0 ?_
    refine x_if_ne (tgt := 37) hX dX10_readItem_32 (by decide) rfl (fun hc => ?_) (fun hc => ?_)
    · replace h := (if_pos hc).symm.trans h
      refine x_iconst hX dX10_readItem_35 ?_
      cases h
      exact x_zret hX dX10_readItem_36 (Or.inl cw_0) rfl
    · replace h := (if_neg hc).symm.trans h
      refine x_aloadn hX dX10_readItem_37 rfl ?_
      refine x_getI hX dX10_readItem_38 fl_X10_68 rfl (st38 hs) ?_
      obtain ⟨x2_3, ex2_3, h⟩ := bnd_of h
      refine x_istoren (ls' := [some (vr (xG X) 38), some (vr (xG X) a1), some (vi x2_3), none, none]) hX dX10_readItem_41 rfl ex2_3 rfl ?_
      refine x_aloadn hX dX10_readItem_42 rfl ?_
      refine x_iconst hX dX10_readItem_43 ?_
      refine x_aloadn hX dX10_readItem_44 rfl ?_
      refine x_getRj (j := a1 + 1) hX dX10_readItem_45 fl_X10_33 rfl h1 rfl ?_
      refine x_getI hX dX10_readItem_48 fl_X10_123 rfl (fo_1_0 (gk hX) h1) ?_
      obtain ⟨r_4, M_5, er_4, h⟩ := cl2_of h
      refine x_callVi (t := 9) (As := [vi 1, vi (M_2 (a1 + 1) 1)]) (rest := []) hX dX10_readItem_51 (c_X10_readNumber (gk hX) (gl hX) hs 1 (M_2 (a1 + 1) 1) M_2 _ _ er_4) kX10_readNumber vX10_readNumber w_853 (st38 hs) rfl rfl rfl rfl (Nat.le_of_ble_eq_true rfl) z0 ?_
      refine x_if_ne (tgt := 59) hX dX10_readItem_54 (by decide) rfl (fun hc => ?_) (fun hc => ?_)
      · replace h := (if_pos hc).symm.trans h
        refine x_iconst hX dX10_readItem_57 ?_
        cases h
        exact x_zret hX dX10_readItem_58 (Or.inl cw_0) rfl
      · replace h := (if_neg hc).symm.trans h
        refine x_aloadn hX dX10_readItem_59 rfl ?_
        refine x_getI hX dX10_readItem_60 fl_X10_68 rfl (st38 hs) ?_
        obtain ⟨x3_6, ex3_6, h⟩ := bnd_of h
        refine x_istoren (ls' := [some (vr (xG X) 38), some (vr (xG X) a1), some (vi x2_3), some (vi x3_6), none]) hX dX10_readItem_63 rfl ex3_6 rfl ?_
        refine x_aloadn hX dX10_readItem_64 rfl ?_
        refine x_iconst hX dX10_readItem_65 ?_
        refine x_bipush hX dX10_readItem_66 bp_50 ?_
        obtain ⟨r_7, M_8, er_7, h⟩ := cl2_of h
        refine x_callVi (t := 9) (As := [vi 1, vi 50]) (rest := []) hX dX10_readItem_68 (c_X10_readNumber (gk hX) (gl hX) hs 1 50 M_5 _ _ er_7) kX10_readNumber vX10_readNumber w_853 (st38 hs) rfl rfl rfl rfl (Nat.le_of_ble_eq_true rfl) z0 ?_
        refine x_if_ne (tgt := 76) hX dX10_readItem_71 (by decide) rfl (fun hc => ?_) (fun hc => ?_)
        · replace h := (if_pos hc).symm.trans h
          refine x_iconst hX dX10_readItem_74 ?_
          cases h
          exact x_zret hX dX10_readItem_75 (Or.inl cw_0) rfl
        · replace h := (if_neg hc).symm.trans h
          refine x_aloadn hX dX10_readItem_76 rfl ?_
          refine x_getI hX dX10_readItem_77 fl_X10_68 rfl (st38 hs) ?_
          obtain ⟨x4_9, ex4_9, h⟩ := bnd_of h
          refine x_istore (ls' := [some (vr (xG X) 38), some (vr (xG X) a1), some (vi x2_3), some (vi x3_6), some (vi x4_9)]) hX dX10_readItem_80 rfl ex4_9 rfl ?_
          refine x_aloadn hX dX10_readItem_82 rfl ?_
          refine x_iconst hX dX10_readItem_83 ?_
          refine x_sipush hX dX10_readItem_84 sp_999 ?_
          obtain ⟨r_10, M_11, er_10, h⟩ := cl2_of h
          refine x_callVi (t := 9) (As := [vi 0, vi 999]) (rest := []) hX dX10_readItem_87 (c_X10_readNumber (gk hX) (gl hX) hs 0 999 M_8 _ _ er_10) kX10_readNumber vX10_readNumber w_853 (st38 hs) rfl rfl rfl rfl (Nat.le_of_ble_eq_true rfl) z0 ?_
          refine x_if_ne (tgt := 95) hX dX10_readItem_90 (by decide) rfl (fun hc => ?_) (fun hc => ?_)
          · replace h := (if_pos hc).symm.trans h
            refine x_iconst hX dX10_readItem_93 ?_
            cases h
            exact x_zret hX dX10_readItem_94 (Or.inl cw_0) rfl
          · replace h := (if_neg hc).symm.trans h
            refine x_aloadn hX dX10_readItem_95 rfl ?_
            refine x_getRj (j := a1 + 4) hX dX10_readItem_96 fl_X10_111 rfl h1 rfl ?_
            refine x_iloadn hX dX10_readItem_99 rfl ?_
            refine x_iloadn hX dX10_readItem_100 rfl ?_
            refine x_iload hX dX10_readItem_101 rfl ?_
            refine x_aloadn hX dX10_readItem_103 rfl ?_
            refine x_getI hX dX10_readItem_104 fl_X10_68 rfl (st38 hs) ?_
            obtain ⟨r_12, M_13, er_12, h⟩ := cl2_of h
            refine x_callVi (t := 2) (As := [vi x2_3, vi x3_6, vi x4_9, vi (M_11 38 7)]) (rest := []) hX dX10_readItem_107 (c_X2_append (gk hX) (gl hX) (fo_1_1 (gk hX) h1) x2_3 x3_6 x4_9 (M_11 38 7) M_11 _ _ er_12) kX2_append vX2_append w_875 (fo_1_1 (gk hX) h1) rfl rfl rfl rfl (Nat.le_of_ble_eq_true rfl) z0 ?_
            refine x_pop hX dX10_readItem_110 rfl ?_
            refine x_aloadn hX dX10_readItem_111 rfl ?_
            obtain ⟨r_14, M_15, er_14, h⟩ := cl2_of h
            refine x_callVi (t := 9) (As := []) (rest := []) hX dX10_readItem_112 (c_X10_readSemicolon (gk hX) (gl hX) hs M_13 _ _ er_14) kX10_readSemicolon vX10_readSemicolon w_862 (st38 hs) rfl rfl rfl rfl (Nat.le_of_ble_eq_true rfl) z0 ?_
            obtain ⟨b_16, h⟩ := gz_of h
            cases h
            exact x_zret hX dX10_readItem_115 b_16 rfl
  · replace h := (if_neg hc).symm.trans h
    refine x_aloadn hX dX10_readItem_12 rfl ?_
    refine x_iconst hX dX10_readItem_13 ?_
    obtain ⟨r_17, M_18, er_17, h⟩ := cl2_of h
    refine x_callVi (t := 9) (As := [vi 3]) (rest := []) hX dX10_readItem_14 (c_X10_fail (gk hX) (gl hX) hs 3 M _ _ er_17) kX10_fail vX10_fail w_849 (st38 hs) rfl rfl rfl rfl (Nat.le_of_ble_eq_true rfl) z0 ?_
    obtain ⟨b_19, h⟩ := gz_of h
    cases h
    exact x_zret hX dX10_readItem_17 b_19 rfl
set_option maxRecDepth 100000 in
set_option maxHeartbeats 4000000 in
theorem tj_X10_readZones_88 {X : Cxt} (hX : Gd X RX10 cX10_readZones 4 (some .boolean) 4) (hs : SOK (xG X)) {a1 : Nat} (h1 : at_ (xG X) a1 13 0)  (M : Mem) (r : Int) (Mr : Mem) (h : j_X10_readZones_88 a1 M = some (r, Mr)) : V X 0 0 (Qn X (some (vi r)) Mr) 88 [none, none, none, none] [] M := by
  unfold j_X10_readZones_88 at h
  refine x_iconst hX dX10_readZones_88 ?_
  refine x_goto (tgt := 93) hX dX10_readZones_89 (by decide) ?_
  cases h
  exact x_zret hX dX10_readZones_93 (Or.inr cw_1) rfl
set_option maxRecDepth 100000 in
set_option maxHeartbeats 4000000 in
theorem tj_X10_readZones_66 {X : Cxt} (hX : Gd X RX10 cX10_readZones 4 (some .boolean) 4) (hs : SOK (xG X)) {a1 : Nat} (h1 : at_ (xG X) a1 13 0)  (x2 : Int) (x3 : Int) (M : Mem) (r : Int) (Mr : Mem) (h : j_X10_readZones_66 a1 x2 x3 M = some (r, Mr)) : V X 0 0 (Qn X (some (vi r)) Mr) 66 [some (vr (xG X) 38), some (vr (xG X) a1), some (vi x2), some (vi x3)] [] M := by
  unfold j_X10_readZones_66 at h
  refine x_aloadn hX dX10_readZones_66 rfl ?_
  refine x_iloadn hX dX10_readZones_67 rfl ?_
  refine x_iloadn hX dX10_readZones_68 rfl ?_
  obtain ⟨M_15, er_14, h⟩ := cl1_of h
  refine x_callVv (t := 3) (As := [vi x2, vi x3]) (rest := []) hX dX10_readZones_69 (c_X3_divide (gk hX) (gl hX) h1 x2 x3 M _ er_14) kX3_divide vX3_divide w_902 h1 rfl rfl rfl rfl (Nat.le_of_ble_eq_true rfl) z0 ?_
  refine x_aloadn hX dX10_readZones_72 rfl ?_
  refine x_getI hX dX10_readZones_73 fl_X10_44 rfl (st38 hs) ?_
  refine x_iconst hX dX10_readZones_76 ?_
  refine x_icmp_eq (tgt := 88) hX dX10_readZones_77 (by decide) rfl cw_3 (fun hc => ?_) (fun hc => ?_)
  · replace h := (if_pos hc).symm.trans h
    exact x_weak [false, false, false, false] rfl (tj_X10_readZones_88 hX hs h1 M_15 r Mr h)
  · replace h := (if_neg hc).symm.trans h
    refine x_aloadn hX dX10_readZones_80 rfl ?_
    refine x_iconst hX dX10_readZones_81 ?_
    obtain ⟨r_16, M_17, er_16, h⟩ := cl2_of h
    refine x_callVi (t := 9) (As := [vi 1]) (rest := []) hX dX10_readZones_82 (c_X10_fail (gk hX) (gl hX) hs 1 M_15 _ _ er_16) kX10_fail vX10_fail w_849 (st38 hs) rfl rfl rfl rfl (Nat.le_of_ble_eq_true rfl) z0 ?_
    refine x_if_eq (tgt := 92) hX dX10_readZones_85 (by decide) rfl (fun hc => ?_) (fun hc => ?_)
    · replace h := (if_pos hc).symm.trans h
      refine x_iconst hX dX10_readZones_92 ?_
      cases h
      exact x_zret hX dX10_readZones_93 (Or.inl cw_0) rfl
    · replace h := (if_neg hc).symm.trans h
      exact x_weak [false, false, false, false] rfl (tj_X10_readZones_88 hX hs h1 M_17 r Mr h)
set_option maxRecDepth 100000 in
set_option maxHeartbeats 4000000 in
theorem c_X10_readZones {l : Launch} {G : Gx} (hG : GOK G) (hl : l.stackTraces = false) (hs : SOK G) {a1 : Nat} (h1 : at_ G a1 13 0) (M : Mem) (r : Int) (Mr : Mem) (h : f_X10_readZones a1 M = some (r, Mr)) : Cn l G mX10_readZones 4 [vr G 38, vr G a1] M (some (vi r)) Mr := by
  refine Cn_of2 (ls := [some (vr G 38), some (vr G a1), none, none]) hG hl kX10_readZones rfl (Nat.le_of_ble_eq_true rfl) rfl rfl rfl rfl rfl (fun X eG el hX => ?_)
  subst eG; subst el
  unfold f_X10_readZones at h
  refine x_aloadn hX dX10_readZones_0 rfl ?_
  refine x_iconst hX dX10_readZones_1 ?_
  refine x_aloadn hX dX10_readZones_2 rfl ?_
  refine x_getI hX dX10_readZones_3 fl_X10_120 rfl h1 ?_
  refine x_iconst hX dX10_readZones_6 ?_
  refine x_isub hX dX10_readZones_7 ?_
  obtain ⟨r_1, M_2, er_1, h⟩ := cl2_of h
  refine x_callVi (t := 9) (As := [vi 1, vi ((M a1 0) - 1)]) (rest := []) hX dX10_readZones_8 (c_X10_readNumber (gk hX) (gl hX) hs 1 ((M a1 0) - 1) M _ _ er_1) kX10_readNumber vX10_readNumber w_853 (st38 hs) rfl rfl rfl rfl (Nat.le_of_ble_eq_true rfl) z0 ?_
  refine x_if_ne (tgt := 16) hX dX10_readZones_11 (by decide) rfl (fun hc => ?_) (fun hc => ?_)
  · replace h := (if_pos hc).symm.trans h
    refine x_iconst hX dX10_readZones_14 ?_
    cases h
    exact x_zret hX dX10_readZones_15 (Or.inl cw_0) rfl
  · replace h := (if_neg hc).symm.trans h
    refine x_aloadn hX dX10_readZones_16 rfl ?_
    refine x_getI hX dX10_readZones_17 fl_X10_68 rfl (st38 hs) ?_
    obtain ⟨x2_3, ex2_3, h⟩ := bnd_of h
    refine x_istoren (ls' := [some (vr (xG X) 38), some (vr (xG X) a1), some (vi x2_3), none]) hX dX10_readZones_20 rfl ex2_3 rfl ?_
    refine x_iconst hX dX10_readZones_21 ?_
    refine x_istoren (ls' := [some (vr (xG X) 38), some (vr (xG X) a1), some (vi x2_3), some (vi (-1))]) hX dX10_readZones_22 rfl rfl rfl ?_
    refine x_aloadn hX dX10_readZones_23 rfl ?_
    obtain ⟨M_5, er_4, h⟩ := cl1_of h
    refine x_callVv (t := 9) (As := []) (rest := []) hX dX10_readZones_24 (c_X10_nextToken (gk hX) (gl hX) hs M_2 _ er_4) kX10_nextToken vX10_nextToken w_783 (st38 hs) rfl rfl rfl rfl (Nat.le_of_ble_eq_true rfl) z0 ?_
    refine x_aloadn hX dX10_readZones_27 rfl ?_
    refine x_getI hX dX10_readZones_28 fl_X10_44 rfl (st38 hs) ?_
    refine x_iconst hX dX10_readZones_31 ?_
    refine x_icmp_ne (tgt := 66) hX dX10_readZones_32 (by decide) rfl cw_2 (fun hc => ?_) (fun hc => ?_)
    · replace h := (if_pos hc).symm.trans h
      refine x_aloadn hX dX10_readZones_35 rfl ?_
      refine x_iloadn hX dX10_readZones_36 rfl ?_
      refine x_iconst hX dX10_readZones_37 ?_
      refine x_iadd hX dX10_readZones_38 ?_
      refine x_aloadn hX dX10_readZones_39 rfl ?_
      refine x_getI hX dX10_readZones_40 fl_X10_120 rfl h1 ?_
      refine x_iconst hX dX10_readZones_43 ?_
      refine x_isub hX dX10_readZones_44 ?_
      obtain ⟨r_6, er_6, h⟩ := cl1_of h
      refine x_callVi (t := 9) (As := [vi (x2_3 + 1), vi ((M_5 a1 0) - 1)]) (rest := []) hX dX10_readZones_45 (c_X10_isWithin (gk hX) (gl hX) hs (x2_3 + 1) ((M_5 a1 0) - 1) M_5 _ er_6) kX10_isWithin vX10_isWithin w_857 (st38 hs) rfl rfl rfl rfl (Nat.le_of_ble_eq_true rfl) z0 ?_
      refine x_if_ne (tgt := 57) hX dX10_readZones_48 (by decide) rfl (fun hc => ?_) (fun hc => ?_)
      · replace h := (if_pos hc).symm.trans h
        refine x_aloadn hX dX10_readZones_51 rfl ?_
        refine x_iconst hX dX10_readZones_52 ?_
        obtain ⟨r_8, M_9, er_8, h⟩ := cl2_of h
        refine x_callVi (t := 9) (As := [vi 2]) (rest := []) hX dX10_readZones_53 (c_X10_fail (gk hX) (gl hX) hs 2 M_5 _ _ er_8) kX10_fail vX10_fail w_849 (st38 hs) rfl rfl rfl rfl (Nat.le_of_ble_eq_true rfl) z0 ?_
        obtain ⟨b_10, h⟩ := gz_of h
        cases h
        exact x_zret hX dX10_readZones_56 b_10 rfl
      · replace h := (if_neg hc).symm.trans h
        refine x_aloadn hX dX10_readZones_57 rfl ?_
        refine x_getI hX dX10_readZones_58 fl_X10_68 rfl (st38 hs) ?_
        obtain ⟨x3_11, ex3_11, h⟩ := bnd_of h
        refine x_istoren (ls' := [some (vr (xG X) 38), some (vr (xG X) a1), some (vi x2_3), some (vi x3_11)]) hX dX10_readZones_61 rfl ex3_11 rfl ?_
        refine x_aloadn hX dX10_readZones_62 rfl ?_
        obtain ⟨M_13, er_12, h⟩ := cl1_of h
        refine x_callVv (t := 9) (As := []) (rest := []) hX dX10_readZones_63 (c_X10_nextToken (gk hX) (gl hX) hs M_5 _ er_12) kX10_nextToken vX10_nextToken w_783 (st38 hs) rfl rfl rfl rfl (Nat.le_of_ble_eq_true rfl) z0 ?_
        exact x_weak [true, true, true, true] rfl (tj_X10_readZones_66 hX hs h1 x2_3 x3_11 M_13 r Mr h)
    · replace h := (if_neg hc).symm.trans h
      exact x_weak [true, true, true, true] rfl (tj_X10_readZones_66 hX hs h1 x2_3 (-1) M_5 r Mr h)
set_option maxRecDepth 100000 in
set_option maxHeartbeats 4000000 in
theorem c_X10_readBuffer {l : Launch} {G : Gx} (hG : GOK G) (hl : l.stackTraces = false) (hs : SOK G) {a1 : Nat} (h1 : at_ G a1 13 0) (M : Mem) (r : Int) (Mr : Mem) (h : f_X10_readBuffer a1 M = some (r, Mr)) : Cn l G mX10_readBuffer 4 [vr G 38, vr G a1] M (some (vi r)) Mr := by
  refine Cn_of2 (ls := [some (vr G 38), some (vr G a1), none]) hG hl kX10_readBuffer rfl (Nat.le_of_ble_eq_true rfl) rfl rfl rfl rfl rfl (fun X eG el hX => ?_)
  subst eG; subst el
  unfold f_X10_readBuffer at h
  refine x_aloadn hX dX10_readBuffer_0 rfl ?_
  refine x_iconst hX dX10_readBuffer_1 ?_
  refine x_iconst hX dX10_readBuffer_2 ?_
  obtain ⟨r_1, M_2, er_1, h⟩ := cl2_of h
  refine x_callVi (t := 9) (As := [vi 0, vi 1]) (rest := []) hX dX10_readBuffer_3 (c_X10_readNumber (gk hX) (gl hX) hs 0 1 M _ _ er_1) kX10_readNumber vX10_readNumber w_853 (st38 hs) rfl rfl rfl rfl (Nat.le_of_ble_eq_true rfl) z0 ?_
  refine x_if_ne (tgt := 11) hX dX10_readBuffer_6 (by decide) rfl (fun hc => ?_) (fun hc => ?_)
  · replace h := (if_pos hc).symm.trans h
    refine x_iconst hX dX10_readBuffer_9 ?_
    cases h
    exact x_zret hX dX10_readBuffer_10 (Or.inl cw_0) rfl
  · replace h := (if_neg hc).symm.trans h
    refine x_aloadn hX dX10_readBuffer_11 rfl ?_
    refine x_getI hX dX10_readBuffer_12 fl_X10_68 rfl (st38 hs) ?_
    obtain ⟨x2_3, ex2_3, h⟩ := bnd_of h
    refine x_istoren (ls' := [some (vr (xG X) 38), some (vr (xG X) a1), some (vi x2_3)]) hX dX10_readBuffer_15 rfl ex2_3 rfl ?_
    refine x_aloadn hX dX10_readBuffer_16 rfl ?_
    refine x_iconst hX dX10_readBuffer_17 ?_
    refine x_iconst hX dX10_readBuffer_18 ?_
    obtain ⟨r_4, M_5, er_4, h⟩ := cl2_of h
    refine x_callVi (t := 9) (As := [vi 0, vi 4]) (rest := []) hX dX10_readBuffer_19 (c_X10_readNumber (gk hX) (gl hX) hs 0 4 M_2 _ _ er_4) kX10_readNumber vX10_readNumber w_853 (st38 hs) rfl rfl rfl rfl (Nat.le_of_ble_eq_true rfl) z0 ?_
    refine x_if_ne (tgt := 27) hX dX10_readBuffer_22 (by decide) rfl (fun hc => ?_) (fun hc => ?_)
    · replace h := (if_pos hc).symm.trans h
      refine x_iconst hX dX10_readBuffer_25 ?_
      cases h
      exact x_zret hX dX10_readBuffer_26 (Or.inl cw_0) rfl
    · replace h := (if_neg hc).symm.trans h
      refine x_aloadn hX dX10_readBuffer_27 rfl ?_
      refine x_getRj (j := a1 + 2) hX dX10_readBuffer_28 fl_X10_156 rfl h1 rfl ?_
      refine x_iloadn hX dX10_readBuffer_31 rfl ?_
      refine x_aloadn hX dX10_readBuffer_32 rfl ?_
      refine x_getI hX dX10_readBuffer_33 fl_X10_68 rfl (st38 hs) ?_
      obtain ⟨b_7, h⟩ := gi_of h
      obtain ⟨M_6, eM_6, h⟩ := bnd_of h
      refine x_iast hX dX10_readBuffer_36 (fo_3_8 (gk hX) h1) b_7 rfl (x_meq eM_6 ?_)
      refine x_aloadn hX dX10_readBuffer_37 rfl ?_
      obtain ⟨r_8, M_9, er_8, h⟩ := cl2_of h
      refine x_callVi (t := 9) (As := []) (rest := []) hX dX10_readBuffer_38 (c_X10_readSemicolon (gk hX) (gl hX) hs M_6 _ _ er_8) kX10_readSemicolon vX10_readSemicolon w_862 (st38 hs) rfl rfl rfl rfl (Nat.le_of_ble_eq_true rfl) z0 ?_
      obtain ⟨b_10, h⟩ := gz_of h
      cases h
      exact x_zret hX dX10_readBuffer_41 b_10 rfl
set_option maxRecDepth 100000 in
set_option maxHeartbeats 4000000 in
theorem c_X10_readTimes {l : Launch} {G : Gx} (hG : GOK G) (hl : l.stackTraces = false) (hs : SOK G) {a1 : Nat} (h1 : at_ G a1 13 0) (M : Mem) (r : Int) (Mr : Mem) (h : f_X10_readTimes a1 M = some (r, Mr)) : Cn l G mX10_readTimes 4 [vr G 38, vr G a1] M (some (vi r)) Mr := by
  refine Cn_of2 (ls := [some (vr G 38), some (vr G a1)]) hG hl kX10_readTimes rfl (Nat.le_of_ble_eq_true rfl) rfl rfl rfl rfl rfl (fun X eG el hX => ?_)
  subst eG; subst el
  unfold f_X10_readTimes at h
  refine x_aloadn hX dX10_readTimes_0 rfl ?_
  refine x_iconst hX dX10_readTimes_1 ?_
  refine x_bipush hX dX10_readTimes_2 bp_99 ?_
  obtain ⟨r_1, M_2, er_1, h⟩ := cl2_of h
  refine x_callVi (t := 9) (As := [vi 0, vi 99]) (rest := []) hX dX10_readTimes_4 (c_X10_readNumber (gk hX) (gl hX) hs 0 99 M _ _ er_1) kX10_readNumber vX10_readNumber w_853 (st38 hs) rfl rfl rfl rfl (Nat.le_of_ble_eq_true rfl) z0 ?_
  refine x_if_ne (tgt := 12) hX dX10_readTimes_7 (by decide) rfl (fun hc => ?_) (fun hc => ?_)
  · replace h := (if_pos hc).symm.trans h
    refine x_iconst hX dX10_readTimes_10 ?_
    cases h
    exact x_zret hX dX10_readTimes_11 (Or.inl cw_0) rfl
  · replace h := (if_neg hc).symm.trans h
    refine x_aloadn hX dX10_readTimes_12 rfl ?_
    refine x_aloadn hX dX10_readTimes_13 rfl ?_
    refine x_getI hX dX10_readTimes_14 fl_X10_68 rfl (st38 hs) ?_
    obtain ⟨M_3, eM_3, h⟩ := bnd_of h
    refine x_putI hX dX10_readTimes_17 fp_X10_160 rfl h1 (x_meq eM_3 ?_)
    refine x_aloadn hX dX10_readTimes_20 rfl ?_
    refine x_iconst hX dX10_readTimes_21 ?_
    refine x_bipush hX dX10_readTimes_22 bp_99 ?_
    obtain ⟨r_4, M_5, er_4, h⟩ := cl2_of h
    refine x_callVi (t := 9) (As := [vi 0, vi 99]) (rest := []) hX dX10_readTimes_24 (c_X10_readNumber (gk hX) (gl hX) hs 0 99 M_3 _ _ er_4) kX10_readNumber vX10_readNumber w_853 (st38 hs) rfl rfl rfl rfl (Nat.le_of_ble_eq_true rfl) z0 ?_
    refine x_if_ne (tgt := 32) hX dX10_readTimes_27 (by decide) rfl (fun hc => ?_) (fun hc => ?_)
    · replace h := (if_pos hc).symm.trans h
      refine x_iconst hX dX10_readTimes_30 ?_
      cases h
      exact x_zret hX dX10_readTimes_31 (Or.inl cw_0) rfl
    · replace h := (if_neg hc).symm.trans h
      refine x_aloadn hX dX10_readTimes_32 rfl ?_
      refine x_aloadn hX dX10_readTimes_33 rfl ?_
      refine x_getI hX dX10_readTimes_34 fl_X10_68 rfl (st38 hs) ?_
      obtain ⟨M_6, eM_6, h⟩ := bnd_of h
      refine x_putI hX dX10_readTimes_37 fp_X10_163 rfl h1 (x_meq eM_6 ?_)
      refine x_aloadn hX dX10_readTimes_40 rfl ?_
      obtain ⟨r_7, M_8, er_7, h⟩ := cl2_of h
      refine x_callVi (t := 9) (As := []) (rest := []) hX dX10_readTimes_41 (c_X10_readSemicolon (gk hX) (gl hX) hs M_6 _ _ er_7) kX10_readSemicolon vX10_readSemicolon w_862 (st38 hs) rfl rfl rfl rfl (Nat.le_of_ble_eq_true rfl) z0 ?_
      obtain ⟨b_9, h⟩ := gz_of h
      cases h
      exact x_zret hX dX10_readTimes_44 b_9 rfl
set_option maxRecDepth 100000 in
set_option maxHeartbeats 4000000 in
theorem c_X11_makeBatches {l : Launch} {G : Gx} (hG : GOK G) (hl : l.stackTraces = false) (hs : SOK G)  (x1 : Int) (x2 : Int) (x3 : Int) (M : Mem) (r : Nat ⊕ Int) (Mr : Mem) (h : f_X11_makeBatches x1 x2 x3 M = some (r, Mr)) : Cx l G mX11_makeBatches 5 3 18 [vr G 0, vi x1, vi x2, vi x3] M (ovi r) Mr := by
  refine Cx_of2 (ls := [some (vr G 0), some (vi x1), some (vi x2), some (vi x3)]) hG hl kX11_makeBatches rfl (Nat.le_of_ble_eq_true rfl) rfl rfl rfl rfl rfl (fun X eG el hX hN => ?_)
  subst eG; subst el
  unfold f_X11_makeBatches at h
  refine x_iloadn hX dX11_makeBatches_0 rfl ?_
  refine x_iloadn hX dX11_makeBatches_1 rfl ?_
  rcases cx1_of h with ⟨e_3, ee_3, h⟩ | ⟨r_1, er_1, h⟩
  · exact x_rs2 (f := ovi) h (x_xSt (As := [vi x1, vi x2]) (rest := []) hX hN dX11_makeBatches_2 (c_X11_needBatchLimits (gk hX) (gl hX) x1 x2 M _ ee_3) kX11_needBatchLimits sX11_needBatchLimits w_1215 rfl rfl rfl (Nat.le_of_ble_eq_true rfl) (Nat.le_of_ble_eq_true rfl) (Nat.le_of_ble_eq_true rfl))
  · refine x_xSr (As := [vi x1, vi x2]) (rest := []) hX dX11_makeBatches_2 (c_X11_needBatchLimits (gk hX) (gl hX) x1 x2 M _ er_1) kX11_needBatchLimits sX11_needBatchLimits w_1215 rfl rfl rfl (Nat.le_of_ble_eq_true rfl) (kf hN (a := 2) (b := 12) (Nat.le_of_ble_eq_true rfl) (Nat.le_of_ble_eq_true rfl)) ?_
    show V X 2 12 _ 5 [some (vr (xG X) 0), some (vi x1), some (vi x2), some (vi x3)] [] M
    refine x_iloadn hX dX11_makeBatches_5 rfl ?_
    refine x_iconst hX dX11_makeBatches_6 ?_
    refine x_iconst hX dX11_makeBatches_7 ?_
    rcases cx1_of h with ⟨e_6, ee_6, h⟩ | ⟨r_4, er_4, h⟩
    · exact x_rs2 (f := ovi) h (x_xSt (As := [vi x3, vi 0, vi 2]) (rest := []) hX hN dX11_makeBatches_8 (c_X11_needArgument (gk hX) (gl hX) x3 0 2 M _ ee_6) kX11_needArgument sX11_needArgument w_965 rfl rfl rfl (Nat.le_of_ble_eq_true rfl) (Nat.le_of_ble_eq_true rfl) (Nat.le_of_ble_eq_true rfl))
    · refine x_xSr (As := [vi x3, vi 0, vi 2]) (rest := []) hX dX11_makeBatches_8 (c_X11_needArgument (gk hX) (gl hX) x3 0 2 M _ er_4) kX11_needArgument sX11_needArgument w_965 rfl rfl rfl (Nat.le_of_ble_eq_true rfl) (kf hN (a := 3) (b := 18) (Nat.le_of_ble_eq_true rfl) (Nat.le_of_ble_eq_true rfl)) ?_
      show V X 3 18 _ 11 [some (vr (xG X) 0), some (vi x1), some (vi x2), some (vi x3)] [] M
      refine x_aloadn hX dX11_makeBatches_11 rfl ?_
      refine x_getRj (j := 1) hX dX11_makeBatches_12 fl_X11_10 rfl (st0 hs) rfl ?_
      refine x_iloadn hX dX11_makeBatches_15 rfl ?_
      refine x_iloadn hX dX11_makeBatches_16 rfl ?_
      refine x_iloadn hX dX11_makeBatches_17 rfl ?_
      obtain ⟨r_7, M_8, er_7, h⟩ := cl2_of h
      refine x_callSi (As := [vr (xG X) 1, vi x1, vi x2, vi x3]) (rest := []) hX dX11_makeBatches_18 (c_X8_makeAll (gk hX) (gl hX) (st1 hs) x1 x2 x3 M _ _ er_7) kX8_makeAll sX8_makeAll w_1219 rfl rfl rfl (Nat.le_of_ble_eq_true rfl) (kf hN (a := 3) (b := 18) (Nat.le_of_ble_eq_true rfl) (Nat.le_of_ble_eq_true rfl)) ?_
      cases h
      exact x_iretX hX dX11_makeBatches_21 (Nat.le_of_ble_eq_true rfl) (Nat.le_of_ble_eq_true rfl)
set_option maxRecDepth 100000 in
set_option maxHeartbeats 4000000 in
theorem c_X11_batchRoute {l : Launch} {G : Gx} (hG : GOK G) (hl : l.stackTraces = false) (hs : SOK G)  (x1 : Int) (M : Mem) (r : Nat ⊕ Int) (Mr : Mem) (h : f_X11_batchRoute x1 M = some (r, Mr)) : Cx l G mX11_batchRoute 5 1 6 [vr G 0, vi x1] M (ovi r) Mr := by
  refine Cx_of2 (ls := [some (vr G 0), some (vi x1)]) hG hl kX11_batchRoute rfl (Nat.le_of_ble_eq_true rfl) rfl rfl rfl rfl rfl (fun X eG el hX hN => ?_)
  subst eG; subst el
  unfold f_X11_batchRoute at h
  refine x_aloadn hX dX11_batchRoute_0 rfl ?_
  refine x_iloadn hX dX11_batchRoute_1 rfl ?_
  rcases cx1_of h with ⟨e_3, ee_3, h⟩ | ⟨r_1, er_1, h⟩
  · exact x_rs2 (f := ovi) h (x_xVt (t := 10) (As := [vi x1]) (rest := []) hX hN dX11_batchRoute_2 (c_X11_needBatch (gk hX) (gl hX) hs x1 M _ ee_3) kX11_needBatch vX11_needBatch w_1282 (st0 hs) rfl rfl rfl rfl (Nat.le_of_ble_eq_true rfl) (Nat.le_of_ble_eq_true rfl) (Nat.le_of_ble_eq_true rfl))
  · refine x_xVr (t := 10) (As := [vi x1]) (rest := []) hX dX11_batchRoute_2 (c_X11_needBatch (gk hX) (gl hX) hs x1 M _ er_1) kX11_needBatch vX11_needBatch w_1282 (st0 hs) rfl rfl rfl rfl (Nat.le_of_ble_eq_true rfl) (kf hN (a := 1) (b := 6) (Nat.le_of_ble_eq_true rfl) (Nat.le_of_ble_eq_true rfl)) ?_
    show V X 1 6 _ 5 [some (vr (xG X) 0), some (vi x1)] [] M
    refine x_aloadn hX dX11_batchRoute_5 rfl ?_
    refine x_getRj (j := 40) hX dX11_batchRoute_6 fl_X11_33 rfl (st0 hs) rfl ?_
    refine x_aloadn hX dX11_batchRoute_9 rfl ?_
    refine x_getRj (j := 1) hX dX11_batchRoute_10 fl_X11_10 rfl (st0 hs) rfl ?_
    refine x_aloadn hX dX11_batchRoute_13 rfl ?_
    refine x_getRj (j := 1) hX dX11_batchRoute_14 fl_X11_10 rfl (st0 hs) rfl ?_
    refine x_getRj (j := 17) hX dX11_batchRoute_17 fl_X11_159 rfl (st1 hs) rfl ?_
    refine x_getRj (j := 18) hX dX11_batchRoute_20 fl_X11_195 rfl (st17 hs) rfl ?_
    refine x_iloadn hX dX11_batchRoute_23 rfl ?_
    obtain ⟨b_4, h⟩ := gi_of h
    refine x_iald hX dX11_batchRoute_24 (st18 hs) b_4 rfl ?_
    refine x_aloadn hX dX11_batchRoute_25 rfl ?_
    refine x_getRj (j := 1) hX dX11_batchRoute_26 fl_X11_10 rfl (st0 hs) rfl ?_
    refine x_getRj (j := 2) hX dX11_batchRoute_29 fl_X11_79 rfl (st1 hs) rfl ?_
    refine x_getI hX dX11_batchRoute_32 fl_X11_220 rfl (st2 hs) ?_
    obtain ⟨r_5, M_6, er_5, h⟩ := cl2_of h
    refine x_callVi (t := 6) (As := [vr (xG X) 1, vi (M 18 (ix x1)), vi (M 2 5)]) (rest := []) hX dX11_batchRoute_35 (c_X6_lengthFor (gk hX) (gl hX) (st40 hs) (st1 hs) (M 18 (ix x1)) (M 2 5) M _ _ er_5) kX6_lengthFor vX6_lengthFor w_604 (st40 hs) rfl rfl rfl rfl (Nat.le_of_ble_eq_true rfl) (kf hN (a := 1) (b := 6) (Nat.le_of_ble_eq_true rfl) (Nat.le_of_ble_eq_true rfl)) ?_
    cases h
    exact x_iretX hX dX11_batchRoute_38 (Nat.le_of_ble_eq_true rfl) (Nat.le_of_ble_eq_true rfl)
set_option maxRecDepth 100000 in
set_option maxHeartbeats 4000000 in
theorem tj_X11_bestPolicy_74_38 {X : Cxt} (hX : Gd X RX11 cX11_bestPolicy 7 (some .int) 5) (hN : NX X 1 6) (hs : SOK (xG X))   (x2 : Int) (x3 : Int) (x4 : Int) (x5 : Int) (M : Mem) {Q : State → Prop} (o : (Int × Int × Int × Mem) ⊕ ((Int × Mem) ⊕ ((Nat ⊕ Int) × Mem))) (h : j_X11_bestPolicy_74_38 x2 x3 x4 x5 M = some o) (hP : ∀ y, o = .inl y → V X 1 6 Q 38 [some (vr (xG X) 0), none, some (vi x2), some (vi y.1), some (vi y.2.1), some (vi y.2.2.1), none] [] y.2.2.2) (hE : ∀ z, o = .inr (.inl z) → V X 1 6 Q 80 [none, none, none, some (vi z.1), none, none, none] [] z.2) (hR : ∀ q, o = .inr (.inr q) → Q = Qx X 1 6 (ovi q.1) q.2) : V X 1 6 Q 74 [some (vr (xG X) 0), none, some (vi x2), some (vi x3), some (vi x4), some (vi x5), none] [] M := by
  unfold j_X11_bestPolicy_74_38 at h
  obtain ⟨x5_10, ex5_10, h⟩ := bnd_of h
  refine x_iinc (ls' := [some (vr (xG X) 0), none, some (vi x2), some (vi x3), some (vi x4), some (vi x5_10), none]) hX dX11_bestPolicy_74 rfl rfl ex5_10 rfl ?_
  refine x_goto (tgt := 38) hX dX11_bestPolicy_77 (by decide) ?_
  exact x_weak [true, false, true, true, true, true, false] rfl (hP (x3, x4, x5_10, M) (Option.some.inj h).symm)
set_option maxRecDepth 100000 in
set_option maxHeartbeats 4000000 in
theorem ts_X11_bestPolicy_38 {X : Cxt} (hX : Gd X RX11 cX11_bestPolicy 7 (some .int) 5) (hN : NX X 1 6) (hs : SOK (xG X))  (x2 : Int) (x3 : Int) (x4 : Int) (x5 : Int) (M : Mem) {Q : State → Prop} (o : (Int × Int × Int × Mem) ⊕ ((Int × Mem) ⊕ ((Nat ⊕ Int) × Mem))) (h : s_X11_bestPolicy_38 x2 x3 x4 x5 M = some o) (hP : ∀ y, o = .inl y → V X 1 6 Q 38 [some (vr (xG X) 0), none, some (vi x2), some (vi y.1), some (vi y.2.1), some (vi y.2.2.1), none] [] y.2.2.2) (hE : ∀ z, o = .inr (.inl z) → V X 1 6 Q 80 [none, none, none, some (vi z.1), none, none, none] [] z.2) (hR : ∀ q, o = .inr (.inr q) → Q = Qx X 1 6 (ovi q.1) q.2) : V X 1 6 Q 38 [some (vr (xG X) 0), none, some (vi x2), some (vi x3), some (vi x4), some (vi x5), none] [] M := by
  unfold s_X11_bestPolicy_38 at h
  refine x_iload hX dX11_bestPolicy_38 rfl ?_
  refine x_iconst hX dX11_bestPolicy_40 ?_
  refine x_icmp_gt (tgt := 80) hX dX11_bestPolicy_41 (by decide) rfl cw_3 (fun hc => ?_) (fun hc => ?_)
  · replace h := (if_pos hc).symm.trans h
    exact x_weak [false, false, false, true, false, false, false] rfl (hE (x3, M) (Option.some.inj h).symm)
  · replace h := (if_neg hc).symm.trans h
    refine x_aloadn hX dX11_bestPolicy_44 rfl ?_
    refine x_getRj (j := 40) hX dX11_bestPolicy_45 fl_X11_33 rfl (st0 hs) rfl ?_
    refine x_aloadn hX dX11_bestPolicy_48 rfl ?_
    refine x_getRj (j := 1) hX dX11_bestPolicy_49 fl_X11_10 rfl (st0 hs) rfl ?_
    refine x_iloadn hX dX11_bestPolicy_52 rfl ?_
    refine x_iload hX dX11_bestPolicy_53 rfl ?_
    obtain ⟨r_8, M_9, er_8, h⟩ := cl2_of h
    refine x_callVi (t := 6) (As := [vr (xG X) 1, vi x2, vi x5]) (rest := []) hX dX11_bestPolicy_55 (c_X6_lengthFor (gk hX) (gl hX) (st40 hs) (st1 hs) x2 x5 M _ _ er_8) kX6_lengthFor vX6_lengthFor w_604 (st40 hs) rfl rfl rfl rfl (Nat.le_of_ble_eq_true rfl) (kf hN (a := 1) (b := 6) (Nat.le_of_ble_eq_true rfl) (Nat.le_of_ble_eq_true rfl)) ?_
    refine x_istore (ls' := [some (vr (xG X) 0), none, some (vi x2), some (vi x3), some (vi x4), some (vi x5), some (vi r_8)]) hX dX11_bestPolicy_58 rfl rfl rfl ?_
    refine x_iload hX dX11_bestPolicy_60 rfl ?_
    refine x_iload hX dX11_bestPolicy_62 rfl ?_
    refine x_icmp_ge (tgt := 74) hX dX11_bestPolicy_64 (by decide) rfl rfl (fun hc => ?_) (fun hc => ?_)
    · replace h := (if_pos hc).symm.trans h
      refine x_iload hX dX11_bestPolicy_67 rfl ?_
      refine x_istore (ls' := [some (vr (xG X) 0), none, some (vi x2), some (vi x3), some (vi r_8), some (vi x5), some (vi r_8)]) hX dX11_bestPolicy_69 rfl rfl rfl ?_
      refine x_iload hX dX11_bestPolicy_71 rfl ?_
      refine x_istoren (ls' := [some (vr (xG X) 0), none, some (vi x2), some (vi x5), some (vi r_8), some (vi x5), some (vi r_8)]) hX dX11_bestPolicy_73 rfl rfl rfl ?_
      exact x_weak [true, false, true, true, true, true, false] rfl (tj_X11_bestPolicy_74_38 hX hN hs x2 x5 r_8 x5 M_9 o h hP hE hR)
    · replace h := (if_neg hc).symm.trans h
      exact x_weak [true, false, true, true, true, true, false] rfl (tj_X11_bestPolicy_74_38 hX hN hs x2 x3 x4 x5 M_9 o h hP hE hR)
set_option maxRecDepth 100000 in
set_option maxHeartbeats 4000000 in
theorem c_X11_bestPolicy {l : Launch} {G : Gx} (hG : GOK G) (hl : l.stackTraces = false) (hs : SOK G)  (x1 : Int) (M : Mem) (r : Nat ⊕ Int) (Mr : Mem) (h : f_X11_bestPolicy x1 M = some (r, Mr)) : Cx l G mX11_bestPolicy 5 1 6 [vr G 0, vi x1] M (ovi r) Mr := by
  refine Cx_of2 (ls := [some (vr G 0), some (vi x1), none, none, none, none, none]) hG hl kX11_bestPolicy rfl (Nat.le_of_ble_eq_true rfl) rfl rfl rfl rfl rfl (fun X eG el hX hN => ?_)
  subst eG; subst el
  unfold f_X11_bestPolicy at h
  refine x_aloadn hX dX11_bestPolicy_0 rfl ?_
  refine x_iloadn hX dX11_bestPolicy_1 rfl ?_
  rcases cx1_of h with ⟨e_3, ee_3, h⟩ | ⟨r_1, er_1, h⟩
  · exact x_rs2 (f := ovi) h (x_xVt (t := 10) (As := [vi x1]) (rest := []) hX hN dX11_bestPolicy_2 (c_X11_needBatch (gk hX) (gl hX) hs x1 M _ ee_3) kX11_needBatch vX11_needBatch w_1282 (st0 hs) rfl rfl rfl rfl (Nat.le_of_ble_eq_true rfl) (Nat.le_of_ble_eq_true rfl) (Nat.le_of_ble_eq_true rfl))
  · refine x_xVr (t := 10) (As := [vi x1]) (rest := []) hX dX11_bestPolicy_2 (c_X11_needBatch (gk hX) (gl hX) hs x1 M _ er_1) kX11_needBatch vX11_needBatch w_1282 (st0 hs) rfl rfl rfl rfl (Nat.le_of_ble_eq_true rfl) (kf hN (a := 1) (b := 6) (Nat.le_of_ble_eq_true rfl) (Nat.le_of_ble_eq_true rfl)) ?_
    show V X 1 6 _ 5 [some (vr (xG X) 0), some (vi x1), none, none, none, none, none] [] M
    refine x_aloadn hX dX11_bestPolicy_5 rfl ?_
    refine x_getRj (j := 1) hX dX11_bestPolicy_6 fl_X11_10 rfl (st0 hs) rfl ?_
    refine x_getRj (j := 17) hX dX11_bestPolicy_9 fl_X11_159 rfl (st1 hs) rfl ?_
    refine x_getRj (j := 18) hX dX11_bestPolicy_12 fl_X11_195 rfl (st17 hs) rfl ?_
    refine x_iloadn hX dX11_bestPolicy_15 rfl ?_
    obtain ⟨b_4, h⟩ := gi_of h
    refine x_iald hX dX11_bestPolicy_16 (st18 hs) b_4 rfl ?_
    obtain ⟨x2_5, ex2_5, h⟩ := bnd_of h
    refine x_istoren (ls' := [some (vr (xG X) 0), some (vi x1), some (vi x2_5), none, none, none, none]) hX dX11_bestPolicy_17 rfl ex2_5 rfl ?_
    refine x_iconst hX dX11_bestPolicy_18 ?_
    refine x_istoren (ls' := [some (vr (xG X) 0), some (vi x1), some (vi x2_5), some (vi 0), none, none, none]) hX dX11_bestPolicy_19 rfl rfl rfl ?_
    refine x_aloadn hX dX11_bestPolicy_20 rfl ?_
    refine x_getRj (j := 40) hX dX11_bestPolicy_21 fl_X11_33 rfl (st0 hs) rfl ?_
    refine x_aloadn hX dX11_bestPolicy_24 rfl ?_
    refine x_getRj (j := 1) hX dX11_bestPolicy_25 fl_X11_10 rfl (st0 hs) rfl ?_
    refine x_iloadn hX dX11_bestPolicy_28 rfl ?_
    refine x_iconst hX dX11_bestPolicy_29 ?_
    obtain ⟨r_6, M_7, er_6, h⟩ := cl2_of h
    refine x_callVi (t := 6) (As := [vr (xG X) 1, vi x2_5, vi 0]) (rest := []) hX dX11_bestPolicy_30 (c_X6_lengthFor (gk hX) (gl hX) (st40 hs) (st1 hs) x2_5 0 M _ _ er_6) kX6_lengthFor vX6_lengthFor w_604 (st40 hs) rfl rfl rfl rfl (Nat.le_of_ble_eq_true rfl) (kf hN (a := 1) (b := 6) (Nat.le_of_ble_eq_true rfl) (Nat.le_of_ble_eq_true rfl)) ?_
    refine x_istore (ls' := [some (vr (xG X) 0), some (vi x1), some (vi x2_5), some (vi 0), some (vi r_6), none, none]) hX dX11_bestPolicy_33 rfl rfl rfl ?_
    refine x_iconst hX dX11_bestPolicy_35 ?_
    refine x_istore (ls' := [some (vr (xG X) 0), some (vi x1), some (vi x2_5), some (vi 0), some (vi r_6), some (vi 1), none]) hX dX11_bestPolicy_36 rfl rfl rfl ?_
    refine x_weak (ls' := [some (vr (xG X) 0), none, some (vi x2_5), some (vi 0), some (vi r_6), some (vi 1), none]) [true, false, true, true, true, true, false] rfl ?_
    refine lp_use (x := (0, r_6, 1, M_7)) (P := fun x => V X 1 6 (Qx X 1 6 (ovi r) Mr) 38 [some (vr (xG X) 0), none, some (vi x2_5), some (vi x.1), some (vi x.2.1), some (vi x.2.2.1), none] [] x.2.2.2) (PE := fun z_11 => V X 1 6 (Qx X 1 6 (ovi r) Mr) 80 [none, none, none, some (vi z_11.1), none, none, none] [] z_11.2) (PR := fun q => (Qx X 1 6 (ovi r) Mr) = Qx X 1 6 (ovi q.1) q.2) h (fun x o hh hP hE hR => ts_X11_bestPolicy_38 hX hN hs x2_5 x.1 x.2.1 x.2.2.1 x.2.2.2 o hh hP hE hR) (fun z_11 h => ?_) (fun q h => ?_)
    · show V X 1 6 (Qx X 1 6 (ovi r) Mr) 80 [none, none, none, some (vi z_11.1), none, none, none] [] z_11.2
      refine x_iloadn hX dX11_bestPolicy_80 rfl ?_
      cases h
      exact x_iretX hX dX11_bestPolicy_81 (Nat.le_of_ble_eq_true rfl) (Nat.le_of_ble_eq_true rfl)
    · cases h; rfl
