-- written by wip/gen/emit.py: X12_seedOf, X12_nextOf, X12_addBatch, X12_batchWeight, X12_routes, X12_takes, X12_routeLength, X12_stopsByGaps, X12_stopsCombined, X12_readHall, X12_readItem, X12_readLine
theorem dX12_seedOf_0 : decode cX12_seedOf 0 = .ok (.iconst (-1), 1) := by decide +kernel
theorem dX12_seedOf_1 : decode cX12_seedOf 1 = .ok (.istore_n 3, 1) := by decide +kernel
theorem dX12_seedOf_2 : decode cX12_seedOf 2 = .ok (.iconst 0, 1) := by decide +kernel
theorem dX12_seedOf_3 : decode cX12_seedOf 3 = .ok (.istore 4, 2) := by decide +kernel
theorem dX12_seedOf_5 : decode cX12_seedOf 5 = .ok (.iload 4, 2) := by decide +kernel
theorem dX12_seedOf_7 : decode cX12_seedOf 7 = .ok (.bipush 16, 2) := by decide +kernel
theorem dX12_seedOf_9 : decode cX12_seedOf 9 = .ok (.if_icmp .ge 42, 3) := by decide +kernel
theorem dX12_seedOf_12 : decode cX12_seedOf 12 = .ok (.iload_n 1, 1) := by decide +kernel
theorem dX12_seedOf_13 : decode cX12_seedOf 13 = .ok (.iload 4, 2) := by decide +kernel
theorem dX12_seedOf_15 : decode cX12_seedOf 15 = .ok (.invokestatic 136, 3) := by decide +kernel
theorem dX12_seedOf_18 : decode cX12_seedOf 18 = .ok (.ifCond .eq 27, 3) := by decide +kernel
theorem dX12_seedOf_21 : decode cX12_seedOf 21 = .ok (.iload_n 3, 1) := by decide +kernel
theorem dX12_seedOf_22 : decode cX12_seedOf 22 = .ok (.iconst (-1), 1) := by decide +kernel
theorem dX12_seedOf_23 : decode cX12_seedOf 23 = .ok (.if_icmp .eq 19, 3) := by decide +kernel
theorem dX12_seedOf_26 : decode cX12_seedOf 26 = .ok (.aload_n 0, 1) := by decide +kernel
theorem dX12_seedOf_27 : decode cX12_seedOf 27 = .ok (.iload 4, 2) := by decide +kernel
theorem dX12_seedOf_29 : decode cX12_seedOf 29 = .ok (.iload_n 2, 1) := by decide +kernel
theorem dX12_seedOf_30 : decode cX12_seedOf 30 = .ok (.invokevirtual 159, 3) := by decide +kernel
theorem dX12_seedOf_33 : decode cX12_seedOf 33 = .ok (.aload_n 0, 1) := by decide +kernel
theorem dX12_seedOf_34 : decode cX12_seedOf 34 = .ok (.iload_n 3, 1) := by decide +kernel
theorem dX12_seedOf_35 : decode cX12_seedOf 35 = .ok (.iload_n 2, 1) := by decide +kernel
theorem dX12_seedOf_36 : decode cX12_seedOf 36 = .ok (.invokevirtual 159, 3) := by decide +kernel
theorem dX12_seedOf_39 : decode cX12_seedOf 39 = .ok (.if_icmp .le 6, 3) := by decide +kernel
theorem dX12_seedOf_42 : decode cX12_seedOf 42 = .ok (.iload 4, 2) := by decide +kernel
theorem dX12_seedOf_44 : decode cX12_seedOf 44 = .ok (.istore_n 3, 1) := by decide +kernel
theorem dX12_seedOf_45 : decode cX12_seedOf 45 = .ok (.iinc 4 1, 3) := by decide +kernel
theorem dX12_seedOf_48 : decode cX12_seedOf 48 = .ok (.goto (-43), 3) := by decide +kernel
theorem dX12_seedOf_51 : decode cX12_seedOf 51 = .ok (.iload_n 3, 1) := by decide +kernel
theorem dX12_seedOf_52 : decode cX12_seedOf 52 = .ok (.ireturn, 1) := by decide +kernel
noncomputable def j_X12_seedOf_45_5   (x1 : Int) (x2 : Int) (x3 : Int) (x4 : Int) (M : Mem) : Option ((Int × Int) ⊕ ((Int) ⊕ (Int))) :=
  bnd (x4 + 1) (fun x4_3 => some (.inl (x3, x4_3)))
set_option maxRecDepth 100000 in
set_option maxHeartbeats 4000000 in
theorem tj_X12_seedOf_45_5 {X : Cxt} (hX : Gd X RX12 cX12_seedOf 5 (some .int) 5) (hs : SOK (xG X))   (x1 : Int) (x2 : Int) (x3 : Int) (x4 : Int) (M : Mem) {Q : State → Prop} (o : (Int × Int) ⊕ ((Int) ⊕ (Int))) (h : j_X12_seedOf_45_5 x1 x2 x3 x4 M = some o) (hP : ∀ y, o = .inl y → V X 0 0 Q 5 [some (vr (xG X) 139), some (vi x1), some (vi x2), some (vi y.1), some (vi y.2)] [] M) (hE : ∀ z, o = .inr (.inl z) → V X 0 0 Q 51 [none, none, none, some (vi z), none] [] M) (hR : ∀ q, o = .inr (.inr q) → Q = Qn X (some (vi q)) M) : V X 0 0 Q 45 [some (vr (xG X) 139), some (vi x1), some (vi x2), some (vi x3), some (vi x4)] [] M := by
  unfold j_X12_seedOf_45_5 at h
  obtain ⟨x4_3, ex4_3, h⟩ := bnd_of h
  refine x_iinc (ls' := [some (vr (xG X) 139), some (vi x1), some (vi x2), some (vi x3), some (vi x4_3)]) hX dX12_seedOf_45 rfl rfl ex4_3 rfl ?_
  refine x_goto (tgt := 5) hX dX12_seedOf_48 (by decide) ?_
  exact x_weak [true, true, true, true, true] rfl (hP (x3, x4_3) (Option.some.inj h).symm)
noncomputable def j_X12_seedOf_42_5   (x1 : Int) (x2 : Int) (x4 : Int) (M : Mem) : Option ((Int × Int) ⊕ ((Int) ⊕ (Int))) :=
  j_X12_seedOf_45_5 x1 x2 x4 x4 M
set_option maxRecDepth 100000 in
set_option maxHeartbeats 4000000 in
theorem tj_X12_seedOf_42_5 {X : Cxt} (hX : Gd X RX12 cX12_seedOf 5 (some .int) 5) (hs : SOK (xG X))   (x1 : Int) (x2 : Int) (x4 : Int) (M : Mem) {Q : State → Prop} (o : (Int × Int) ⊕ ((Int) ⊕ (Int))) (h : j_X12_seedOf_42_5 x1 x2 x4 M = some o) (hP : ∀ y, o = .inl y → V X 0 0 Q 5 [some (vr (xG X) 139), some (vi x1), some (vi x2), some (vi y.1), some (vi y.2)] [] M) (hE : ∀ z, o = .inr (.inl z) → V X 0 0 Q 51 [none, none, none, some (vi z), none] [] M) (hR : ∀ q, o = .inr (.inr q) → Q = Qn X (some (vi q)) M) : V X 0 0 Q 42 [some (vr (xG X) 139), some (vi x1), some (vi x2), none, some (vi x4)] [] M := by
  unfold j_X12_seedOf_42_5 at h
  refine x_iload hX dX12_seedOf_42 rfl ?_
  refine x_istoren (ls' := [some (vr (xG X) 139), some (vi x1), some (vi x2), some (vi x4), some (vi x4)]) hX dX12_seedOf_44 rfl rfl rfl ?_
  exact x_weak [true, true, true, true, true] rfl (tj_X12_seedOf_45_5 hX hs x1 x2 x4 x4 M o h hP hE hR)
noncomputable def s_X12_seedOf_5  (x1 : Int) (x2 : Int) (M : Mem) (x3 : Int) (x4 : Int) : Option ((Int × Int) ⊕ ((Int) ⊕ (Int))) :=
  (if w32 x4 < 16 then cl1 (f_X12_has x1 x4 M) (fun r_1 => (if w32 r_1 = 0 then j_X12_seedOf_45_5 x1 x2 x3 x4 M else (if w32 x3 = (-1) then j_X12_seedOf_42_5 x1 x2 x4 M else cl1 (f_X12_seedBy x4 x2 M) (fun r_4 => cl1 (f_X12_seedBy x3 x2 M) (fun r_6 => (if w32 r_6 < w32 r_4 then j_X12_seedOf_42_5 x1 x2 x4 M else j_X12_seedOf_45_5 x1 x2 x3 x4 M)))))) else some (.inr (.inl x3)))
set_option maxRecDepth 100000 in
set_option maxHeartbeats 4000000 in
theorem ts_X12_seedOf_5 {X : Cxt} (hX : Gd X RX12 cX12_seedOf 5 (some .int) 5) (hs : SOK (xG X))  (x1 : Int) (x2 : Int) (M : Mem) (x3 : Int) (x4 : Int) {Q : State → Prop} (o : (Int × Int) ⊕ ((Int) ⊕ (Int))) (h : s_X12_seedOf_5 x1 x2 M x3 x4 = some o) (hP : ∀ y, o = .inl y → V X 0 0 Q 5 [some (vr (xG X) 139), some (vi x1), some (vi x2), some (vi y.1), some (vi y.2)] [] M) (hE : ∀ z, o = .inr (.inl z) → V X 0 0 Q 51 [none, none, none, some (vi z), none] [] M) (hR : ∀ q, o = .inr (.inr q) → Q = Qn X (some (vi q)) M) : V X 0 0 Q 5 [some (vr (xG X) 139), some (vi x1), some (vi x2), some (vi x3), some (vi x4)] [] M := by
  unfold s_X12_seedOf_5 at h
  refine x_iload hX dX12_seedOf_5 rfl ?_
  refine x_bipush hX dX12_seedOf_7 bp_16 ?_
  refine x_icmp_ge (tgt := 51) hX dX12_seedOf_9 (by decide) rfl cw_16 (fun hc => ?_) (fun hc => ?_)
  · replace h := (if_pos hc).symm.trans h
    refine x_iloadn hX dX12_seedOf_12 rfl ?_
    refine x_iload hX dX12_seedOf_13 rfl ?_
    obtain ⟨r_1, er_1, h⟩ := cl1_of h
    refine x_callSi (As := [vi x1, vi x4]) (rest := []) hX dX12_seedOf_15 (c_X12_has (gk hX) (gl hX) x1 x4 M _ er_1) kX12_has sX12_has w_1868 rfl rfl rfl (Nat.le_of_ble_eq_true rfl) z0 ?_
    refine x_if_eq (tgt := 45) hX dX12_seedOf_18 (by decide) rfl (fun hc => ?_) (fun hc => ?_)
    · replace h := (if_pos hc).symm.trans h
      exact x_weak [true, true, true, true, true] rfl (tj_X12_seedOf_45_5 hX hs x1 x2 x3 x4 M o h hP hE hR)
    · replace h := (if_neg hc).symm.trans h
      refine x_iloadn hX dX12_seedOf_21 rfl ?_
      refine x_iconst hX dX12_seedOf_22 ?_
      refine x_icmp_eq (tgt := 42) hX dX12_seedOf_23 (by decide) rfl cw_m1 (fun hc => ?_) (fun hc => ?_)
      · replace h := (if_pos hc).symm.trans h
        exact x_weak [true, true, true, false, true] rfl (tj_X12_seedOf_42_5 hX hs x1 x2 x4 M o h hP hE hR)
      · replace h := (if_neg hc).symm.trans h
        refine x_aloadn hX dX12_seedOf_26 rfl ?_
        refine x_iload hX dX12_seedOf_27 rfl ?_
        refine x_iloadn hX dX12_seedOf_29 rfl ?_
        obtain ⟨r_4, er_4, h⟩ := cl1_of h
        refine x_callVi (t := 11) (As := [vi x4, vi x2]) (rest := []) hX dX12_seedOf_30 (c_X12_seedBy (gk hX) (gl hX) hs x4 x2 M _ er_4) kX12_seedBy vX12_seedBy w_1892 (st139 hs) rfl rfl rfl rfl (Nat.le_of_ble_eq_true rfl) z0 ?_
        refine x_aloadn hX dX12_seedOf_33 rfl ?_
        refine x_iloadn hX dX12_seedOf_34 rfl ?_
        refine x_iloadn hX dX12_seedOf_35 rfl ?_
        obtain ⟨r_6, er_6, h⟩ := cl1_of h
        refine x_callVi (t := 11) (As := [vi x3, vi x2]) (rest := [vi r_4]) hX dX12_seedOf_36 (c_X12_seedBy (gk hX) (gl hX) hs x3 x2 M _ er_6) kX12_seedBy vX12_seedBy w_1892 (st139 hs) rfl rfl rfl rfl (Nat.le_of_ble_eq_true rfl) z0 ?_
        refine x_icmp_le (tgt := 45) hX dX12_seedOf_39 (by decide) rfl rfl (fun hc => ?_) (fun hc => ?_)
        · replace h := (if_pos hc).symm.trans h
          exact x_weak [true, true, true, false, true] rfl (tj_X12_seedOf_42_5 hX hs x1 x2 x4 M o h hP hE hR)
        · replace h := (if_neg hc).symm.trans h
          exact x_weak [true, true, true, true, true] rfl (tj_X12_seedOf_45_5 hX hs x1 x2 x3 x4 M o h hP hE hR)
  · replace h := (if_neg hc).symm.trans h
    exact x_weak [false, false, false, true, false] rfl (hE x3 (Option.some.inj h).symm)
noncomputable def f_X12_seedOf  (x1 : Int) (x2 : Int) (M : Mem) : Option (Int) :=
  lpb (wh (fun x => s_X12_seedOf_5 x1 x2 M x.1 x.2) ((-1), 0)) (fun z_8 => some z_8) (fun q => some q)
set_option maxRecDepth 100000 in
set_option maxHeartbeats 4000000 in
theorem c_X12_seedOf {l : Launch} {G : Gx} (hG : GOK G) (hl : l.stackTraces = false) (hs : SOK G)  (x1 : Int) (x2 : Int) (M : Mem) (r : Int) (h : f_X12_seedOf x1 x2 M = some r) : Cn l G mX12_seedOf 5 [vr G 139, vi x1, vi x2] M (some (vi r)) M := by
  refine Cn_of2 (ls := [some (vr G 139), some (vi x1), some (vi x2), none, none]) hG hl kX12_seedOf rfl (Nat.le_of_ble_eq_true rfl) rfl rfl rfl rfl rfl (fun X eG el hX => ?_)
  subst eG; subst el
  unfold f_X12_seedOf at h
  refine x_iconst hX dX12_seedOf_0 ?_
  refine x_istoren (ls' := [some (vr (xG X) 139), some (vi x1), some (vi x2), some (vi (-1)), none]) hX dX12_seedOf_1 rfl rfl rfl ?_
  refine x_iconst hX dX12_seedOf_2 ?_
  refine x_istore (ls' := [some (vr (xG X) 139), some (vi x1), some (vi x2), some (vi (-1)), some (vi 0)]) hX dX12_seedOf_3 rfl rfl rfl ?_
  refine x_weak (ls' := [some (vr (xG X) 139), some (vi x1), some (vi x2), some (vi (-1)), some (vi 0)]) [true, true, true, true, true] rfl ?_
  refine lp_use (x := ((-1), 0)) (P := fun x => V X 0 0 (Qn X (some (vi r)) M) 5 [some (vr (xG X) 139), some (vi x1), some (vi x2), some (vi x.1), some (vi x.2)] [] M) (PE := fun z_8 => V X 0 0 (Qn X (some (vi r)) M) 51 [none, none, none, some (vi z_8), none] [] M) (PR := fun q => (Qn X (some (vi r)) M) = Qn X (some (vi q)) M) h (fun x o hh hP hE hR => ts_X12_seedOf_5 hX hs x1 x2 M x.1 x.2 o hh hP hE hR) (fun z_8 h => ?_) (fun q h => ?_)
  · show V X 0 0 (Qn X (some (vi r)) M) 51 [none, none, none, some (vi z_8), none] [] M
    refine x_iloadn hX dX12_seedOf_51 rfl ?_
    cases h
    exact x_iret hX dX12_seedOf_52 rfl
  · cases h; rfl
theorem dX12_nextOf_0 : decode cX12_nextOf 0 = .ok (.iconst (-1), 1) := by decide +kernel
theorem dX12_nextOf_1 : decode cX12_nextOf 1 = .ok (.istore 4, 2) := by decide +kernel
theorem dX12_nextOf_3 : decode cX12_nextOf 3 = .ok (.iconst 0, 1) := by decide +kernel
theorem dX12_nextOf_4 : decode cX12_nextOf 4 = .ok (.istore 5, 2) := by decide +kernel
theorem dX12_nextOf_6 : decode cX12_nextOf 6 = .ok (.iload_n 3, 1) := by decide +kernel
theorem dX12_nextOf_7 : decode cX12_nextOf 7 = .ok (.aload_n 0, 1) := by decide +kernel
theorem dX12_nextOf_8 : decode cX12_nextOf 8 = .ok (.iload_n 2, 1) := by decide +kernel
theorem dX12_nextOf_9 : decode cX12_nextOf 9 = .ok (.invokevirtual 162, 3) := by decide +kernel
theorem dX12_nextOf_12 : decode cX12_nextOf 12 = .ok (.isub, 1) := by decide +kernel
theorem dX12_nextOf_13 : decode cX12_nextOf 13 = .ok (.istore 6, 2) := by decide +kernel
theorem dX12_nextOf_15 : decode cX12_nextOf 15 = .ok (.aload_n 0, 1) := by decide +kernel
theorem dX12_nextOf_16 : decode cX12_nextOf 16 = .ok (.iload_n 2, 1) := by decide +kernel
theorem dX12_nextOf_17 : decode cX12_nextOf 17 = .ok (.invokevirtual 165, 3) := by decide +kernel
theorem dX12_nextOf_20 : decode cX12_nextOf 20 = .ok (.istore 7, 2) := by decide +kernel
theorem dX12_nextOf_22 : decode cX12_nextOf 22 = .ok (.iconst 0, 1) := by decide +kernel
theorem dX12_nextOf_23 : decode cX12_nextOf 23 = .ok (.istore 8, 2) := by decide +kernel
theorem dX12_nextOf_25 : decode cX12_nextOf 25 = .ok (.iload 8, 2) := by decide +kernel
theorem dX12_nextOf_27 : decode cX12_nextOf 27 = .ok (.bipush 16, 2) := by decide +kernel
theorem dX12_nextOf_29 : decode cX12_nextOf 29 = .ok (.if_icmp .ge 93, 3) := by decide +kernel
theorem dX12_nextOf_32 : decode cX12_nextOf 32 = .ok (.iload_n 1, 1) := by decide +kernel
theorem dX12_nextOf_33 : decode cX12_nextOf 33 = .ok (.iload 8, 2) := by decide +kernel
theorem dX12_nextOf_35 : decode cX12_nextOf 35 = .ok (.invokestatic 136, 3) := by decide +kernel
theorem dX12_nextOf_38 : decode cX12_nextOf 38 = .ok (.ifCond .eq 78, 3) := by decide +kernel
theorem dX12_nextOf_41 : decode cX12_nextOf 41 = .ok (.aload_n 0, 1) := by decide +kernel
theorem dX12_nextOf_42 : decode cX12_nextOf 42 = .ok (.iload 8, 2) := by decide +kernel
theorem dX12_nextOf_44 : decode cX12_nextOf 44 = .ok (.invokevirtual 130, 3) := by decide +kernel
theorem dX12_nextOf_47 : decode cX12_nextOf 47 = .ok (.iload 6, 2) := by decide +kernel
theorem dX12_nextOf_49 : decode cX12_nextOf 49 = .ok (.if_icmp .le 6, 3) := by decide +kernel
theorem dX12_nextOf_52 : decode cX12_nextOf 52 = .ok (.goto 64, 3) := by decide +kernel
theorem dX12_nextOf_55 : decode cX12_nextOf 55 = .ok (.aload_n 0, 1) := by decide +kernel
theorem dX12_nextOf_56 : decode cX12_nextOf 56 = .ok (.iload 8, 2) := by decide +kernel
theorem dX12_nextOf_58 : decode cX12_nextOf 58 = .ok (.invokevirtual 133, 3) := by decide +kernel
theorem dX12_nextOf_61 : decode cX12_nextOf 61 = .ok (.iload 7, 2) := by decide +kernel
theorem dX12_nextOf_63 : decode cX12_nextOf 63 = .ok (.iconst (-1), 1) := by decide +kernel
theorem dX12_nextOf_64 : decode cX12_nextOf 64 = .ok (.ixor, 1) := by decide +kernel
theorem dX12_nextOf_65 : decode cX12_nextOf 65 = .ok (.iand, 1) := by decide +kernel
theorem dX12_nextOf_66 : decode cX12_nextOf 66 = .ok (.invokestatic 156, 3) := by decide +kernel
theorem dX12_nextOf_69 : decode cX12_nextOf 69 = .ok (.istore 9, 2) := by decide +kernel
theorem dX12_nextOf_71 : decode cX12_nextOf 71 = .ok (.iload 4, 2) := by decide +kernel
theorem dX12_nextOf_73 : decode cX12_nextOf 73 = .ok (.iconst (-1), 1) := by decide +kernel
theorem dX12_nextOf_74 : decode cX12_nextOf 74 = .ok (.if_icmp .eq 34, 3) := by decide +kernel
theorem dX12_nextOf_77 : decode cX12_nextOf 77 = .ok (.iload 9, 2) := by decide +kernel
theorem dX12_nextOf_79 : decode cX12_nextOf 79 = .ok (.iload 5, 2) := by decide +kernel
theorem dX12_nextOf_81 : decode cX12_nextOf 81 = .ok (.if_icmp .lt 27, 3) := by decide +kernel
theorem dX12_nextOf_84 : decode cX12_nextOf 84 = .ok (.iload 9, 2) := by decide +kernel
theorem dX12_nextOf_86 : decode cX12_nextOf 86 = .ok (.iload 5, 2) := by decide +kernel
theorem dX12_nextOf_88 : decode cX12_nextOf 88 = .ok (.if_icmp .ne 28, 3) := by decide +kernel
theorem dX12_nextOf_91 : decode cX12_nextOf 91 = .ok (.aload_n 0, 1) := by decide +kernel
theorem dX12_nextOf_92 : decode cX12_nextOf 92 = .ok (.iload 8, 2) := by decide +kernel
theorem dX12_nextOf_94 : decode cX12_nextOf 94 = .ok (.iconst 0, 1) := by decide +kernel
theorem dX12_nextOf_95 : decode cX12_nextOf 95 = .ok (.invokevirtual 107, 3) := by decide +kernel
theorem dX12_nextOf_98 : decode cX12_nextOf 98 = .ok (.aload_n 0, 1) := by decide +kernel
theorem dX12_nextOf_99 : decode cX12_nextOf 99 = .ok (.iload 4, 2) := by decide +kernel
theorem dX12_nextOf_101 : decode cX12_nextOf 101 = .ok (.iconst 0, 1) := by decide +kernel
theorem dX12_nextOf_102 : decode cX12_nextOf 102 = .ok (.invokevirtual 107, 3) := by decide +kernel
theorem dX12_nextOf_105 : decode cX12_nextOf 105 = .ok (.if_icmp .ge 11, 3) := by decide +kernel
theorem dX12_nextOf_108 : decode cX12_nextOf 108 = .ok (.iload 8, 2) := by decide +kernel
theorem dX12_nextOf_110 : decode cX12_nextOf 110 = .ok (.istore 4, 2) := by decide +kernel
theorem dX12_nextOf_112 : decode cX12_nextOf 112 = .ok (.iload 9, 2) := by decide +kernel
theorem dX12_nextOf_114 : decode cX12_nextOf 114 = .ok (.istore 5, 2) := by decide +kernel
theorem dX12_nextOf_116 : decode cX12_nextOf 116 = .ok (.iinc 8 1, 3) := by decide +kernel
theorem dX12_nextOf_119 : decode cX12_nextOf 119 = .ok (.goto (-94), 3) := by decide +kernel
theorem dX12_nextOf_122 : decode cX12_nextOf 122 = .ok (.iload 4, 2) := by decide +kernel
theorem dX12_nextOf_124 : decode cX12_nextOf 124 = .ok (.ireturn, 1) := by decide +kernel
noncomputable def j_X12_nextOf_116_25   (x1 : Int) (x4 : Int) (x5 : Int) (x6 : Int) (x7 : Int) (x8 : Int) (M : Mem) : Option ((Int × Int × Int) ⊕ ((Int) ⊕ (Int))) :=
  bnd (x8 + 1) (fun x8_8 => some (.inl (x4, x5, x8_8)))
set_option maxRecDepth 100000 in
set_option maxHeartbeats 4000000 in
theorem tj_X12_nextOf_116_25 {X : Cxt} (hX : Gd X RX12 cX12_nextOf 10 (some .int) 5) (hs : SOK (xG X))   (x1 : Int) (x4 : Int) (x5 : Int) (x6 : Int) (x7 : Int) (x8 : Int) (M : Mem) {Q : State → Prop} (o : (Int × Int × Int) ⊕ ((Int) ⊕ (Int))) (h : j_X12_nextOf_116_25 x1 x4 x5 x6 x7 x8 M = some o) (hP : ∀ y, o = .inl y → V X 0 0 Q 25 [some (vr (xG X) 139), some (vi x1), none, none, some (vi y.1), some (vi y.2.1), some (vi x6), some (vi x7), some (vi y.2.2), none] [] M) (hE : ∀ z, o = .inr (.inl z) → V X 0 0 Q 122 [none, none, none, none, some (vi z), none, none, none, none, none] [] M) (hR : ∀ q, o = .inr (.inr q) → Q = Qn X (some (vi q)) M) : V X 0 0 Q 116 [some (vr (xG X) 139), some (vi x1), none, none, some (vi x4), some (vi x5), some (vi x6), some (vi x7), some (vi x8), none] [] M := by
  unfold j_X12_nextOf_116_25 at h
  obtain ⟨x8_8, ex8_8, h⟩ := bnd_of h
  refine x_iinc (ls' := [some (vr (xG X) 139), some (vi x1), none, none, some (vi x4), some (vi x5), some (vi x6), some (vi x7), some (vi x8_8), none]) hX dX12_nextOf_116 rfl rfl ex8_8 rfl ?_
  refine x_goto (tgt := 25) hX dX12_nextOf_119 (by decide) ?_
  exact x_weak [true, true, false, false, true, true, true, true, true, false] rfl (hP (x4, x5, x8_8) (Option.some.inj h).symm)
noncomputable def j_X12_nextOf_108_25   (x1 : Int) (x6 : Int) (x7 : Int) (x8 : Int) (x9 : Int) (M : Mem) : Option ((Int × Int × Int) ⊕ ((Int) ⊕ (Int))) :=
  j_X12_nextOf_116_25 x1 x8 x9 x6 x7 x8 M
set_option maxRecDepth 100000 in
set_option maxHeartbeats 4000000 in
theorem tj_X12_nextOf_108_25 {X : Cxt} (hX : Gd X RX12 cX12_nextOf 10 (some .int) 5) (hs : SOK (xG X))   (x1 : Int) (x6 : Int) (x7 : Int) (x8 : Int) (x9 : Int) (M : Mem) {Q : State → Prop} (o : (Int × Int × Int) ⊕ ((Int) ⊕ (Int))) (h : j_X12_nextOf_108_25 x1 x6 x7 x8 x9 M = some o) (hP : ∀ y, o = .inl y → V X 0 0 Q 25 [some (vr (xG X) 139), some (vi x1), none, none, some (vi y.1), some (vi y.2.1), some (vi x6), some (vi x7), some (vi y.2.2), none] [] M) (hE : ∀ z, o = .inr (.inl z) → V X 0 0 Q 122 [none, none, none, none, some (vi z), none, none, none, none, none] [] M) (hR : ∀ q, o = .inr (.inr q) → Q = Qn X (some (vi q)) M) : V X 0 0 Q 108 [some (vr (xG X) 139), some (vi x1), none, none, none, none, some (vi x6), some (vi x7), some (vi x8), some (vi x9)] [] M := by
  unfold j_X12_nextOf_108_25 at h
  refine x_iload hX dX12_nextOf_108 rfl ?_
  refine x_istore (ls' := [some (vr (xG X) 139), some (vi x1), none, none, some (vi x8), none, some (vi x6), some (vi x7), some (vi x8), some (vi x9)]) hX dX12_nextOf_110 rfl rfl rfl ?_
  refine x_iload hX dX12_nextOf_112 rfl ?_
  refine x_istore (ls' := [some (vr (xG X) 139), some (vi x1), none, none, some (vi x8), some (vi x9), some (vi x6), some (vi x7), some (vi x8), some (vi x9)]) hX dX12_nextOf_114 rfl rfl rfl ?_
  exact x_weak [true, true, false, false, true, true, true, true, true, false] rfl (tj_X12_nextOf_116_25 hX hs x1 x8 x9 x6 x7 x8 M o h hP hE hR)
noncomputable def s_X12_nextOf_25  (x1 : Int) (x6 : Int) (x7 : Int) (M : Mem) (x4 : Int) (x5 : Int) (x8 : Int) : Option ((Int × Int × Int) ⊕ ((Int) ⊕ (Int))) :=
  (if w32 x8 < 16 then cl1 (f_X12_has x1 x8 M) (fun r_6 => (if w32 r_6 = 0 then j_X12_nextOf_116_25 x1 x4 x5 x6 x7 x8 M else cl1 (f_X12_weightOf x8 M) (fun r_9 => (if w32 x6 < w32 r_9 then j_X12_nextOf_116_25 x1 x4 x5 x6 x7 x8 M else cl1 (f_X12_aislesOf x8 M) (fun r_11 => cl1 (f_X12_ones (i_and r_11 (i_xor x7 (-1))) M) (fun r_13 => (if w32 x4 = (-1) then j_X12_nextOf_108_25 x1 x6 x7 x8 r_13 M else (if w32 r_13 < w32 x5 then j_X12_nextOf_108_25 x1 x6 x7 x8 r_13 M else (if w32 r_13 = w32 x5 then cl1 (f_X12_ofOrder x8 0 M) (fun r_15 => cl1 (f_X12_ofOrder x4 0 M) (fun r_17 => (if w32 r_15 < w32 r_17 then j_X12_nextOf_108_25 x1 x6 x7 x8 r_13 M else j_X12_nextOf_116_25 x1 x4 x5 x6 x7 x8 M))) else j_X12_nextOf_116_25 x1 x4 x5 x6 x7 x8 M))))))))) else some (.inr (.inl x4)))
set_option maxRecDepth 100000 in
set_option maxHeartbeats 4000000 in
theorem ts_X12_nextOf_25 {X : Cxt} (hX : Gd X RX12 cX12_nextOf 10 (some .int) 5) (hs : SOK (xG X))  (x1 : Int) (x6 : Int) (x7 : Int) (M : Mem) (x4 : Int) (x5 : Int) (x8 : Int) {Q : State → Prop} (o : (Int × Int × Int) ⊕ ((Int) ⊕ (Int))) (h : s_X12_nextOf_25 x1 x6 x7 M x4 x5 x8 = some o) (hP : ∀ y, o = .inl y → V X 0 0 Q 25 [some (vr (xG X) 139), some (vi x1), none, none, some (vi y.1), some (vi y.2.1), some (vi x6), some (vi x7), some (vi y.2.2), none] [] M) (hE : ∀ z, o = .inr (.inl z) → V X 0 0 Q 122 [none, none, none, none, some (vi z), none, none, none, none, none] [] M) (hR : ∀ q, o = .inr (.inr q) → Q = Qn X (some (vi q)) M) : V X 0 0 Q 25 [some (vr (xG X) 139), some (vi x1), none, none, some (vi x4), some (vi x5), some (vi x6), some (vi x7), some (vi x8), none] [] M := by
  unfold s_X12_nextOf_25 at h
  refine x_iload hX dX12_nextOf_25 rfl ?_
  refine x_bipush hX dX12_nextOf_27 bp_16 ?_
  refine x_icmp_ge (tgt := 122) hX dX12_nextOf_29 (by decide) rfl cw_16 (fun hc => ?_) (fun hc => ?_)
  · replace h := (if_pos hc).symm.trans h
    refine x_iloadn hX dX12_nextOf_32 rfl ?_
    refine x_iload hX dX12_nextOf_33 rfl ?_
    obtain ⟨r_6, er_6, h⟩ := cl1_of h
    refine x_callSi (As := [vi x1, vi x8]) (rest := []) hX dX12_nextOf_35 (c_X12_has (gk hX) (gl hX) x1 x8 M _ er_6) kX12_has sX12_has w_1868 rfl rfl rfl (Nat.le_of_ble_eq_true rfl) z0 ?_
    refine x_if_eq (tgt := 116) hX dX12_nextOf_38 (by decide) rfl (fun hc => ?_) (fun hc => ?_)
    · replace h := (if_pos hc).symm.trans h
      exact x_weak [true, true, false, false, true, true, true, true, true, false] rfl (tj_X12_nextOf_116_25 hX hs x1 x4 x5 x6 x7 x8 M o h hP hE hR)
    · replace h := (if_neg hc).symm.trans h
      refine x_aloadn hX dX12_nextOf_41 rfl ?_
      refine x_iload hX dX12_nextOf_42 rfl ?_
      obtain ⟨r_9, er_9, h⟩ := cl1_of h
      refine x_callVi (t := 11) (As := [vi x8]) (rest := []) hX dX12_nextOf_44 (c_X12_weightOf (gk hX) (gl hX) hs x8 M _ er_9) kX12_weightOf vX12_weightOf w_1844 (st139 hs) rfl rfl rfl rfl (Nat.le_of_ble_eq_true rfl) z0 ?_
      refine x_iload hX dX12_nextOf_47 rfl ?_
      refine x_icmp_le (tgt := 55) hX dX12_nextOf_49 (by decide) rfl rfl (fun hc => ?_) (fun hc => ?_)
      · replace h := (if_pos hc).symm.trans h
        refine x_goto (tgt := 116) hX dX12_nextOf_52 (by decide) ?_
        exact x_weak [true, true, false, false, true, true, true, true, true, false] rfl (tj_X12_nextOf_116_25 hX hs x1 x4 x5 x6 x7 x8 M o h hP hE hR)
      · replace h := (if_neg hc).symm.trans h
        refine x_aloadn hX dX12_nextOf_55 rfl ?_
        refine x_iload hX dX12_nextOf_56 rfl ?_
        obtain ⟨r_11, er_11, h⟩ := cl1_of h
        refine x_callVi (t := 11) (As := [vi x8]) (rest := []) hX dX12_nextOf_58 (c_X12_aislesOf (gk hX) (gl hX) hs x8 M _ er_11) kX12_aislesOf vX12_aislesOf w_1852 (st139 hs) rfl rfl rfl rfl (Nat.le_of_ble_eq_true rfl) z0 ?_
        refine x_iload hX dX12_nextOf_61 rfl ?_
        refine x_iconst hX dX12_nextOf_63 ?_
        refine x_ixor hX dX12_nextOf_64 ?_
        refine x_iand hX dX12_nextOf_65 ?_
        obtain ⟨r_13, er_13, h⟩ := cl1_of h
        refine x_callSi (As := [vi (i_and r_11 (i_xor x7 (-1)))]) (rest := []) hX dX12_nextOf_66 (c_X12_ones (gk hX) (gl hX) (i_and r_11 (i_xor x7 (-1))) M _ er_13) kX12_ones sX12_ones w_1896 rfl rfl rfl (Nat.le_of_ble_eq_true rfl) z0 ?_
        refine x_istore (ls' := [some (vr (xG X) 139), some (vi x1), none, none, some (vi x4), some (vi x5), some (vi x6), some (vi x7), some (vi x8), some (vi r_13)]) hX dX12_nextOf_69 rfl rfl rfl ?_
        refine x_iload hX dX12_nextOf_71 rfl ?_
        refine x_iconst hX dX12_nextOf_73 ?_
        refine x_icmp_eq (tgt := 108) hX dX12_nextOf_74 (by decide) rfl cw_m1 (fun hc => ?_) (fun hc => ?_)
        · replace h := (if_pos hc).symm.trans h
          exact x_weak [true, true, false, false, false, false, true, true, true, true] rfl (tj_X12_nextOf_108_25 hX hs x1 x6 x7 x8 r_13 M o h hP hE hR)
        · replace h := (if_neg hc).symm.trans h
          refine x_iload hX dX12_nextOf_77 rfl ?_
          refine x_iload hX dX12_nextOf_79 rfl ?_
          refine x_icmp_lt (tgt := 108) hX dX12_nextOf_81 (by decide) rfl rfl (fun hc => ?_) (fun hc => ?_)
          · replace h := (if_pos hc).symm.trans h
            exact x_weak [true, true, false, false, false, false, true, true, true, true] rfl (tj_X12_nextOf_108_25 hX hs x1 x6 x7 x8 r_13 M o h hP hE hR)
          · replace h := (if_neg hc).symm.trans h
            refine x_iload hX dX12_nextOf_84 rfl ?_
            refine x_iload hX dX12_nextOf_86 rfl ?_
            refine x_icmp_ne (tgt := 116) hX dX12_nextOf_88 (by decide) rfl rfl (fun hc => ?_) (fun hc => ?_)
            · replace h := (if_pos hc).symm.trans h
              refine x_aloadn hX dX12_nextOf_91 rfl ?_
              refine x_iload hX dX12_nextOf_92 rfl ?_
              refine x_iconst hX dX12_nextOf_94 ?_
              obtain ⟨r_15, er_15, h⟩ := cl1_of h
              refine x_callVi (t := 11) (As := [vi x8, vi 0]) (rest := []) hX dX12_nextOf_95 (c_X12_ofOrder (gk hX) (gl hX) hs x8 0 M _ er_15) kX12_ofOrder vX12_ofOrder w_1797 (st139 hs) rfl rfl rfl rfl (Nat.le_of_ble_eq_true rfl) z0 ?_
              refine x_aloadn hX dX12_nextOf_98 rfl ?_
              refine x_iload hX dX12_nextOf_99 rfl ?_
              refine x_iconst hX dX12_nextOf_101 ?_
              obtain ⟨r_17, er_17, h⟩ := cl1_of h
              refine x_callVi (t := 11) (As := [vi x4, vi 0]) (rest := [vi r_15]) hX dX12_nextOf_102 (c_X12_ofOrder (gk hX) (gl hX) hs x4 0 M _ er_17) kX12_ofOrder vX12_ofOrder w_1797 (st139 hs) rfl rfl rfl rfl (Nat.le_of_ble_eq_true rfl) z0 ?_
              refine x_icmp_ge (tgt := 116) hX dX12_nextOf_105 (by decide) rfl rfl (fun hc => ?_) (fun hc => ?_)
              · replace h := (if_pos hc).symm.trans h
                exact x_weak [true, true, false, false, false, false, true, true, true, true] rfl (tj_X12_nextOf_108_25 hX hs x1 x6 x7 x8 r_13 M o h hP hE hR)
              · replace h := (if_neg hc).symm.trans h
                exact x_weak [true, true, false, false, true, true, true, true, true, false] rfl (tj_X12_nextOf_116_25 hX hs x1 x4 x5 x6 x7 x8 M o h hP hE hR)
            · replace h := (if_neg hc).symm.trans h
              exact x_weak [true, true, false, false, true, true, true, true, true, false] rfl (tj_X12_nextOf_116_25 hX hs x1 x4 x5 x6 x7 x8 M o h hP hE hR)
  · replace h := (if_neg hc).symm.trans h
    exact x_weak [false, false, false, false, true, false, false, false, false, false] rfl (hE x4 (Option.some.inj h).symm)
noncomputable def f_X12_nextOf  (x1 : Int) (x2 : Int) (x3 : Int) (M : Mem) : Option (Int) :=
  cl1 (f_X12_weightOfAll x2 M) (fun r_1 => bnd (x3 - r_1) (fun x6_3 => cl1 (f_X12_aislesOfAll x2 M) (fun r_4 => lpb (wh (fun x => s_X12_nextOf_25 x1 x6_3 r_4 M x.1 x.2.1 x.2.2) ((-1), 0, 0)) (fun z_19 => some z_19) (fun q => some q))))
set_option maxRecDepth 100000 in
set_option maxHeartbeats 4000000 in
theorem c_X12_nextOf {l : Launch} {G : Gx} (hG : GOK G) (hl : l.stackTraces = false) (hs : SOK G)  (x1 : Int) (x2 : Int) (x3 : Int) (M : Mem) (r : Int) (h : f_X12_nextOf x1 x2 x3 M = some r) : Cn l G mX12_nextOf 5 [vr G 139, vi x1, vi x2, vi x3] M (some (vi r)) M := by
  refine Cn_of2 (ls := [some (vr G 139), some (vi x1), some (vi x2), some (vi x3), none, none, none, none, none, none]) hG hl kX12_nextOf rfl (Nat.le_of_ble_eq_true rfl) rfl rfl rfl rfl rfl (fun X eG el hX => ?_)
  subst eG; subst el
  unfold f_X12_nextOf at h
  refine x_iconst hX dX12_nextOf_0 ?_
  refine x_istore (ls' := [some (vr (xG X) 139), some (vi x1), some (vi x2), some (vi x3), some (vi (-1)), none, none, none, none, none]) hX dX12_nextOf_1 rfl rfl rfl ?_
  refine x_iconst hX dX12_nextOf_3 ?_
  refine x_istore (ls' := [some (vr (xG X) 139), some (vi x1), some (vi x2), some (vi x3), some (vi (-1)), some (vi 0), none, none, none, none]) hX dX12_nextOf_4 rfl rfl rfl ?_
  refine x_iloadn hX dX12_nextOf_6 rfl ?_
  refine x_aloadn hX dX12_nextOf_7 rfl ?_
  refine x_iloadn hX dX12_nextOf_8 rfl ?_
  obtain ⟨r_1, er_1, h⟩ := cl1_of h
  refine x_callVi (t := 11) (As := [vi x2]) (rest := [vi x3]) hX dX12_nextOf_9 (c_X12_weightOfAll (gk hX) (gl hX) hs x2 M _ er_1) kX12_weightOfAll vX12_weightOfAll w_1903 (st139 hs) rfl rfl rfl rfl (Nat.le_of_ble_eq_true rfl) z0 ?_
  refine x_isub hX dX12_nextOf_12 ?_
  obtain ⟨x6_3, ex6_3, h⟩ := bnd_of h
  refine x_istore (ls' := [some (vr (xG X) 139), some (vi x1), some (vi x2), some (vi x3), some (vi (-1)), some (vi 0), some (vi x6_3), none, none, none]) hX dX12_nextOf_13 rfl ex6_3 rfl ?_
  refine x_aloadn hX dX12_nextOf_15 rfl ?_
  refine x_iloadn hX dX12_nextOf_16 rfl ?_
  obtain ⟨r_4, er_4, h⟩ := cl1_of h
  refine x_callVi (t := 11) (As := [vi x2]) (rest := []) hX dX12_nextOf_17 (c_X12_aislesOfAll (gk hX) (gl hX) hs x2 M _ er_4) kX12_aislesOfAll vX12_aislesOfAll w_1907 (st139 hs) rfl rfl rfl rfl (Nat.le_of_ble_eq_true rfl) z0 ?_
  refine x_istore (ls' := [some (vr (xG X) 139), some (vi x1), some (vi x2), some (vi x3), some (vi (-1)), some (vi 0), some (vi x6_3), some (vi r_4), none, none]) hX dX12_nextOf_20 rfl rfl rfl ?_
  refine x_iconst hX dX12_nextOf_22 ?_
  refine x_istore (ls' := [some (vr (xG X) 139), some (vi x1), some (vi x2), some (vi x3), some (vi (-1)), some (vi 0), some (vi x6_3), some (vi r_4), some (vi 0), none]) hX dX12_nextOf_23 rfl rfl rfl ?_
  refine x_weak (ls' := [some (vr (xG X) 139), some (vi x1), none, none, some (vi (-1)), some (vi 0), some (vi x6_3), some (vi r_4), some (vi 0), none]) [true, true, false, false, true, true, true, true, true, false] rfl ?_
  refine lp_use (x := ((-1), 0, 0)) (P := fun x => V X 0 0 (Qn X (some (vi r)) M) 25 [some (vr (xG X) 139), some (vi x1), none, none, some (vi x.1), some (vi x.2.1), some (vi x6_3), some (vi r_4), some (vi x.2.2), none] [] M) (PE := fun z_19 => V X 0 0 (Qn X (some (vi r)) M) 122 [none, none, none, none, some (vi z_19), none, none, none, none, none] [] M) (PR := fun q => (Qn X (some (vi r)) M) = Qn X (some (vi q)) M) h (fun x o hh hP hE hR => ts_X12_nextOf_25 hX hs x1 x6_3 r_4 M x.1 x.2.1 x.2.2 o hh hP hE hR) (fun z_19 h => ?_) (fun q h => ?_)
  · show V X 0 0 (Qn X (some (vi r)) M) 122 [none, none, none, none, some (vi z_19), none, none, none, none, none] [] M
    refine x_iload hX dX12_nextOf_122 rfl ?_
    cases h
    exact x_iret hX dX12_nextOf_124 rfl
  · cases h; rfl
theorem dX12_addBatch_0 : decode cX12_addBatch 0 = .ok (.aload_n 0, 1) := by decide +kernel
theorem dX12_addBatch_1 : decode cX12_addBatch 1 = .ok (.iload_n 1, 1) := by decide +kernel
theorem dX12_addBatch_2 : decode cX12_addBatch 2 = .ok (.iconst 1, 1) := by decide +kernel
theorem dX12_addBatch_3 : decode cX12_addBatch 3 = .ok (.iconst 1, 1) := by decide +kernel
theorem dX12_addBatch_4 : decode cX12_addBatch 4 = .ok (.aload_n 0, 1) := by decide +kernel
theorem dX12_addBatch_5 : decode cX12_addBatch 5 = .ok (.getfield 7, 3) := by decide +kernel
theorem dX12_addBatch_8 : decode cX12_addBatch 8 = .ok (.iconst 4, 1) := by decide +kernel
theorem dX12_addBatch_9 : decode cX12_addBatch 9 = .ok (.iaload, 1) := by decide +kernel
theorem dX12_addBatch_10 : decode cX12_addBatch 10 = .ok (.ishl, 1) := by decide +kernel
theorem dX12_addBatch_11 : decode cX12_addBatch 11 = .ok (.iconst 1, 1) := by decide +kernel
theorem dX12_addBatch_12 : decode cX12_addBatch 12 = .ok (.isub, 1) := by decide +kernel
theorem dX12_addBatch_13 : decode cX12_addBatch 13 = .ok (.invokestatic 73, 3) := by decide +kernel
theorem dX12_addBatch_16 : decode cX12_addBatch 16 = .ok (.ifCond .ne 7, 3) := by decide +kernel
theorem dX12_addBatch_19 : decode cX12_addBatch 19 = .ok (.iconst 1, 1) := by decide +kernel
theorem dX12_addBatch_20 : decode cX12_addBatch 20 = .ok (.goto 27, 3) := by decide +kernel
theorem dX12_addBatch_23 : decode cX12_addBatch 23 = .ok (.aload_n 0, 1) := by decide +kernel
theorem dX12_addBatch_24 : decode cX12_addBatch 24 = .ok (.iload_n 1, 1) := by decide +kernel
theorem dX12_addBatch_25 : decode cX12_addBatch 25 = .ok (.invokevirtual 181, 3) := by decide +kernel
theorem dX12_addBatch_28 : decode cX12_addBatch 28 = .ok (.ifCond .eq 14, 3) := by decide +kernel
theorem dX12_addBatch_31 : decode cX12_addBatch 31 = .ok (.aload_n 0, 1) := by decide +kernel
theorem dX12_addBatch_32 : decode cX12_addBatch 32 = .ok (.getfield 7, 3) := by decide +kernel
theorem dX12_addBatch_35 : decode cX12_addBatch 35 = .ok (.iconst 5, 1) := by decide +kernel
theorem dX12_addBatch_36 : decode cX12_addBatch 36 = .ok (.iaload, 1) := by decide +kernel
theorem dX12_addBatch_37 : decode cX12_addBatch 37 = .ok (.bipush 8, 2) := by decide +kernel
theorem dX12_addBatch_39 : decode cX12_addBatch 39 = .ok (.if_icmp .ne 7, 3) := by decide +kernel
theorem dX12_addBatch_42 : decode cX12_addBatch 42 = .ok (.iconst 2, 1) := by decide +kernel
theorem dX12_addBatch_43 : decode cX12_addBatch 43 = .ok (.goto 4, 3) := by decide +kernel
theorem dX12_addBatch_46 : decode cX12_addBatch 46 = .ok (.iconst 0, 1) := by decide +kernel
theorem dX12_addBatch_47 : decode cX12_addBatch 47 = .ok (.putfield 70, 3) := by decide +kernel
theorem dX12_addBatch_50 : decode cX12_addBatch 50 = .ok (.aload_n 0, 1) := by decide +kernel
theorem dX12_addBatch_51 : decode cX12_addBatch 51 = .ok (.getfield 70, 3) := by decide +kernel
theorem dX12_addBatch_54 : decode cX12_addBatch 54 = .ok (.ifCond .le 7, 3) := by decide +kernel
theorem dX12_addBatch_57 : decode cX12_addBatch 57 = .ok (.iconst 0, 1) := by decide +kernel
theorem dX12_addBatch_58 : decode cX12_addBatch 58 = .ok (.goto 8, 3) := by decide +kernel
theorem dX12_addBatch_61 : decode cX12_addBatch 61 = .ok (.aload_n 0, 1) := by decide +kernel
theorem dX12_addBatch_62 : decode cX12_addBatch 62 = .ok (.iload_n 1, 1) := by decide +kernel
theorem dX12_addBatch_63 : decode cX12_addBatch 63 = .ok (.invokevirtual 178, 3) := by decide +kernel
theorem dX12_addBatch_66 : decode cX12_addBatch 66 = .ok (.ireturn, 1) := by decide +kernel
noncomputable def j_X12_addBatch_47   (x1 : Int) (y1 : Int) (M : Mem) : Option (Int × Mem) :=
  bnd (upd2 M 139 0 y1) (fun M_3 => (if 0 < w32 (M_3 139 0) then some (0, M_3) else cl2 (f_X12_addsBatch x1 M_3) (fun r_4 M_5 => some (r_4, M_5))))
set_option maxRecDepth 100000 in
set_option maxHeartbeats 4000000 in
theorem tj_X12_addBatch_47 {X : Cxt} (hX : Gd X RX12 cX12_addBatch 2 (some .int) 5) (hs : SOK (xG X))   (x1 : Int) (y1 : Int) (M : Mem) (r : Int) (Mr : Mem) (h : j_X12_addBatch_47 x1 y1 M = some (r, Mr)) : V X 0 0 (Qn X (some (vi r)) Mr) 47 [some (vr (xG X) 139), some (vi x1)] [vi y1, vr (xG X) 139] M := by
  unfold j_X12_addBatch_47 at h
  obtain ⟨M_3, eM_3, h⟩ := bnd_of h
  refine x_putI hX dX12_addBatch_47 fp_X12_70 rfl (st139 hs) (x_meq eM_3 ?_)
  refine x_aloadn hX dX12_addBatch_50 rfl ?_
  refine x_getI hX dX12_addBatch_51 fl_X12_70 rfl (st139 hs) ?_
  refine x_if_le (tgt := 61) hX dX12_addBatch_54 (by decide) rfl (fun hc => ?_) (fun hc => ?_)
  · replace h := (if_pos hc).symm.trans h
    refine x_iconst hX dX12_addBatch_57 ?_
    refine x_goto (tgt := 66) hX dX12_addBatch_58 (by decide) ?_
    cases h
    exact x_iret hX dX12_addBatch_66 rfl
  · replace h := (if_neg hc).symm.trans h
    refine x_aloadn hX dX12_addBatch_61 rfl ?_
    refine x_iloadn hX dX12_addBatch_62 rfl ?_
    obtain ⟨r_4, M_5, er_4, h⟩ := cl2_of h
    refine x_callVi (t := 11) (As := [vi x1]) (rest := []) hX dX12_addBatch_63 (c_X12_addsBatch (gk hX) (gl hX) hs x1 M_3 _ _ er_4) kX12_addsBatch vX12_addsBatch w_1911 (st139 hs) rfl rfl rfl rfl (Nat.le_of_ble_eq_true rfl) z0 ?_
    cases h
    exact x_iret hX dX12_addBatch_66 rfl
noncomputable def j_X12_addBatch_42   (x1 : Int) (M : Mem) : Option (Int × Mem) :=
  j_X12_addBatch_47 x1 2 M
set_option maxRecDepth 100000 in
set_option maxHeartbeats 4000000 in
theorem tj_X12_addBatch_42 {X : Cxt} (hX : Gd X RX12 cX12_addBatch 2 (some .int) 5) (hs : SOK (xG X))   (x1 : Int) (M : Mem) (r : Int) (Mr : Mem) (h : j_X12_addBatch_42 x1 M = some (r, Mr)) : V X 0 0 (Qn X (some (vi r)) Mr) 42 [some (vr (xG X) 139), some (vi x1)] [vr (xG X) 139] M := by
  unfold j_X12_addBatch_42 at h
  refine x_iconst hX dX12_addBatch_42 ?_
  refine x_goto (tgt := 47) hX dX12_addBatch_43 (by decide) ?_
  exact x_weak [true, true] rfl (tj_X12_addBatch_47 hX hs x1 2 M r Mr h)
noncomputable def f_X12_addBatch  (x1 : Int) (M : Mem) : Option (Int × Mem) :=
  cl1 (f_X12_in x1 1 ((i_shl 1 (M 140 4)) - 1) M) (fun r_1 => (if w32 r_1 = 0 then j_X12_addBatch_47 x1 1 M else cl1 (f_X12_canAll x1 M) (fun r_6 => (if w32 r_6 = 0 then j_X12_addBatch_42 x1 M else (if w32 (M 140 5) = 8 then j_X12_addBatch_42 x1 M else j_X12_addBatch_47 x1 0 M)))))
set_option maxRecDepth 100000 in
set_option maxHeartbeats 4000000 in
theorem c_X12_addBatch {l : Launch} {G : Gx} (hG : GOK G) (hl : l.stackTraces = false) (hs : SOK G)  (x1 : Int) (M : Mem) (r : Int) (Mr : Mem) (h : f_X12_addBatch x1 M = some (r, Mr)) : Cn l G mX12_addBatch 5 [vr G 139, vi x1] M (some (vi r)) Mr := by
  refine Cn_of2 (ls := [some (vr G 139), some (vi x1)]) hG hl kX12_addBatch rfl (Nat.le_of_ble_eq_true rfl) rfl rfl rfl rfl rfl (fun X eG el hX => ?_)
  subst eG; subst el
  unfold f_X12_addBatch at h
  refine x_aloadn hX dX12_addBatch_0 rfl ?_
  refine x_iloadn hX dX12_addBatch_1 rfl ?_
  refine x_iconst hX dX12_addBatch_2 ?_
  refine x_iconst hX dX12_addBatch_3 ?_
  refine x_aloadn hX dX12_addBatch_4 rfl ?_
  refine x_getRj (j := 140) hX dX12_addBatch_5 fl_X12_7 rfl (st139 hs) rfl ?_
  refine x_iconst hX dX12_addBatch_8 ?_
  refine x_iald hX dX12_addBatch_9 (st140 hs) inc_4_469 ixc_4 ?_
  refine x_ishl hX dX12_addBatch_10 ?_
  refine x_iconst hX dX12_addBatch_11 ?_
  refine x_isub hX dX12_addBatch_12 ?_
  obtain ⟨r_1, er_1, h⟩ := cl1_of h
  refine x_callSi (As := [vi x1, vi 1, vi ((i_shl 1 (M 140 4)) - 1)]) (rest := [vr (xG X) 139]) hX dX12_addBatch_13 (c_X12_in (gk hX) (gl hX) x1 1 ((i_shl 1 (M 140 4)) - 1) M _ er_1) kX12_in sX12_in w_1735 rfl rfl rfl (Nat.le_of_ble_eq_true rfl) z0 ?_
  refine x_if_ne (tgt := 23) hX dX12_addBatch_16 (by decide) rfl (fun hc => ?_) (fun hc => ?_)
  · replace h := (if_pos hc).symm.trans h
    refine x_iconst hX dX12_addBatch_19 ?_
    refine x_goto (tgt := 47) hX dX12_addBatch_20 (by decide) ?_
    exact x_weak [true, true] rfl (tj_X12_addBatch_47 hX hs x1 1 M r Mr h)
  · replace h := (if_neg hc).symm.trans h
    refine x_aloadn hX dX12_addBatch_23 rfl ?_
    refine x_iloadn hX dX12_addBatch_24 rfl ?_
    obtain ⟨r_6, er_6, h⟩ := cl1_of h
    refine x_callVi (t := 11) (As := [vi x1]) (rest := [vr (xG X) 139]) hX dX12_addBatch_25 (c_X12_canAll (gk hX) (gl hX) hs x1 M _ er_6) kX12_canAll vX12_canAll w_1923 (st139 hs) rfl rfl rfl rfl (Nat.le_of_ble_eq_true rfl) z0 ?_
    refine x_if_eq (tgt := 42) hX dX12_addBatch_28 (by decide) rfl (fun hc => ?_) (fun hc => ?_)
    · replace h := (if_pos hc).symm.trans h
      exact x_weak [true, true] rfl (tj_X12_addBatch_42 hX hs x1 M r Mr h)
    · replace h := (if_neg hc).symm.trans h
      refine x_aloadn hX dX12_addBatch_31 rfl ?_
      refine x_getRj (j := 140) hX dX12_addBatch_32 fl_X12_7 rfl (st139 hs) rfl ?_
      refine x_iconst hX dX12_addBatch_35 ?_
      refine x_iald hX dX12_addBatch_36 (st140 hs) inc_5_469 ixc_5 ?_
      refine x_bipush hX dX12_addBatch_37 bp_8 ?_
      refine x_icmp_ne (tgt := 46) hX dX12_addBatch_39 (by decide) rfl cw_8 (fun hc => ?_) (fun hc => ?_)
      · replace h := (if_pos hc).symm.trans h
        exact x_weak [true, true] rfl (tj_X12_addBatch_42 hX hs x1 M r Mr h)
      · replace h := (if_neg hc).symm.trans h
        refine x_iconst hX dX12_addBatch_46 ?_
        exact x_weak [true, true] rfl (tj_X12_addBatch_47 hX hs x1 0 M r Mr h)
theorem dX12_batchWeight_0 : decode cX12_batchWeight 0 = .ok (.aload_n 0, 1) := by decide +kernel
theorem dX12_batchWeight_1 : decode cX12_batchWeight 1 = .ok (.aload_n 0, 1) := by decide +kernel
theorem dX12_batchWeight_2 : decode cX12_batchWeight 2 = .ok (.iload_n 1, 1) := by decide +kernel
theorem dX12_batchWeight_3 : decode cX12_batchWeight 3 = .ok (.invokevirtual 184, 3) := by decide +kernel
theorem dX12_batchWeight_6 : decode cX12_batchWeight 6 = .ok (.ifCond .eq 7, 3) := by decide +kernel
theorem dX12_batchWeight_9 : decode cX12_batchWeight 9 = .ok (.iconst 0, 1) := by decide +kernel
theorem dX12_batchWeight_10 : decode cX12_batchWeight 10 = .ok (.goto 4, 3) := by decide +kernel
theorem dX12_batchWeight_13 : decode cX12_batchWeight 13 = .ok (.iconst 1, 1) := by decide +kernel
theorem dX12_batchWeight_14 : decode cX12_batchWeight 14 = .ok (.putfield 70, 3) := by decide +kernel
theorem dX12_batchWeight_17 : decode cX12_batchWeight 17 = .ok (.aload_n 0, 1) := by decide +kernel
theorem dX12_batchWeight_18 : decode cX12_batchWeight 18 = .ok (.getfield 70, 3) := by decide +kernel
theorem dX12_batchWeight_21 : decode cX12_batchWeight 21 = .ok (.ifCond .le 7, 3) := by decide +kernel
theorem dX12_batchWeight_24 : decode cX12_batchWeight 24 = .ok (.iconst 0, 1) := by decide +kernel
theorem dX12_batchWeight_25 : decode cX12_batchWeight 25 = .ok (.goto 17, 3) := by decide +kernel
theorem dX12_batchWeight_28 : decode cX12_batchWeight 28 = .ok (.aload_n 0, 1) := by decide +kernel
theorem dX12_batchWeight_29 : decode cX12_batchWeight 29 = .ok (.aload_n 0, 1) := by decide +kernel
theorem dX12_batchWeight_30 : decode cX12_batchWeight 30 = .ok (.getfield 7, 3) := by decide +kernel
theorem dX12_batchWeight_33 : decode cX12_batchWeight 33 = .ok (.sipush 461, 3) := by decide +kernel
theorem dX12_batchWeight_36 : decode cX12_batchWeight 36 = .ok (.iload_n 1, 1) := by decide +kernel
theorem dX12_batchWeight_37 : decode cX12_batchWeight 37 = .ok (.iadd, 1) := by decide +kernel
theorem dX12_batchWeight_38 : decode cX12_batchWeight 38 = .ok (.iaload, 1) := by decide +kernel
theorem dX12_batchWeight_39 : decode cX12_batchWeight 39 = .ok (.invokevirtual 162, 3) := by decide +kernel
theorem dX12_batchWeight_42 : decode cX12_batchWeight 42 = .ok (.ireturn, 1) := by decide +kernel
noncomputable def j_X12_batchWeight_14   (x1 : Int) (y1 : Int) (M : Mem) : Option (Int × Mem) :=
  bnd (upd2 M 139 0 y1) (fun M_3 => (if 0 < w32 (M_3 139 0) then some (0, M_3) else gi (461 + x1) 469 (cl1 (f_X12_weightOfAll (M_3 140 (ix (461 + x1))) M_3) (fun r_5 => some (r_5, M_3)))))
set_option maxRecDepth 100000 in
set_option maxHeartbeats 4000000 in
theorem tj_X12_batchWeight_14 {X : Cxt} (hX : Gd X RX12 cX12_batchWeight 2 (some .int) 5) (hs : SOK (xG X))   (x1 : Int) (y1 : Int) (M : Mem) (r : Int) (Mr : Mem) (h : j_X12_batchWeight_14 x1 y1 M = some (r, Mr)) : V X 0 0 (Qn X (some (vi r)) Mr) 14 [some (vr (xG X) 139), some (vi x1)] [vi y1, vr (xG X) 139] M := by
  unfold j_X12_batchWeight_14 at h
  obtain ⟨M_3, eM_3, h⟩ := bnd_of h
  refine x_putI hX dX12_batchWeight_14 fp_X12_70 rfl (st139 hs) (x_meq eM_3 ?_)
  refine x_aloadn hX dX12_batchWeight_17 rfl ?_
  refine x_getI hX dX12_batchWeight_18 fl_X12_70 rfl (st139 hs) ?_
  refine x_if_le (tgt := 28) hX dX12_batchWeight_21 (by decide) rfl (fun hc => ?_) (fun hc => ?_)
  · replace h := (if_pos hc).symm.trans h
    refine x_iconst hX dX12_batchWeight_24 ?_
    refine x_goto (tgt := 42) hX dX12_batchWeight_25 (by decide) ?_
    cases h
    exact x_iret hX dX12_batchWeight_42 rfl
  · replace h := (if_neg hc).symm.trans h
    refine x_aloadn hX dX12_batchWeight_28 rfl ?_
    refine x_aloadn hX dX12_batchWeight_29 rfl ?_
    refine x_getRj (j := 140) hX dX12_batchWeight_30 fl_X12_7 rfl (st139 hs) rfl ?_
    refine x_sipush hX dX12_batchWeight_33 sp_461 ?_
    refine x_iloadn hX dX12_batchWeight_36 rfl ?_
    refine x_iadd hX dX12_batchWeight_37 ?_
    obtain ⟨b_4, h⟩ := gi_of h
    refine x_iald hX dX12_batchWeight_38 (st140 hs) b_4 rfl ?_
    obtain ⟨r_5, er_5, h⟩ := cl1_of h
    refine x_callVi (t := 11) (As := [vi (M_3 140 (ix (461 + x1)))]) (rest := []) hX dX12_batchWeight_39 (c_X12_weightOfAll (gk hX) (gl hX) hs (M_3 140 (ix (461 + x1))) M_3 _ er_5) kX12_weightOfAll vX12_weightOfAll w_1903 (st139 hs) rfl rfl rfl rfl (Nat.le_of_ble_eq_true rfl) z0 ?_
    cases h
    exact x_iret hX dX12_batchWeight_42 rfl
noncomputable def f_X12_batchWeight  (x1 : Int) (M : Mem) : Option (Int × Mem) :=
  cl1 (f_X12_isBatch x1 M) (fun r_1 => (if w32 r_1 = 0 then j_X12_batchWeight_14 x1 1 M else j_X12_batchWeight_14 x1 0 M))
set_option maxRecDepth 100000 in
set_option maxHeartbeats 4000000 in
theorem c_X12_batchWeight {l : Launch} {G : Gx} (hG : GOK G) (hl : l.stackTraces = false) (hs : SOK G)  (x1 : Int) (M : Mem) (r : Int) (Mr : Mem) (h : f_X12_batchWeight x1 M = some (r, Mr)) : Cn l G mX12_batchWeight 5 [vr G 139, vi x1] M (some (vi r)) Mr := by
  refine Cn_of2 (ls := [some (vr G 139), some (vi x1)]) hG hl kX12_batchWeight rfl (Nat.le_of_ble_eq_true rfl) rfl rfl rfl rfl rfl (fun X eG el hX => ?_)
  subst eG; subst el
  unfold f_X12_batchWeight at h
  refine x_aloadn hX dX12_batchWeight_0 rfl ?_
  refine x_aloadn hX dX12_batchWeight_1 rfl ?_
  refine x_iloadn hX dX12_batchWeight_2 rfl ?_
  obtain ⟨r_1, er_1, h⟩ := cl1_of h
  refine x_callVi (t := 11) (As := [vi x1]) (rest := [vr (xG X) 139]) hX dX12_batchWeight_3 (c_X12_isBatch (gk hX) (gl hX) hs x1 M _ er_1) kX12_isBatch vX12_isBatch w_1931 (st139 hs) rfl rfl rfl rfl (Nat.le_of_ble_eq_true rfl) z0 ?_
  refine x_if_eq (tgt := 13) hX dX12_batchWeight_6 (by decide) rfl (fun hc => ?_) (fun hc => ?_)
  · replace h := (if_pos hc).symm.trans h
    refine x_iconst hX dX12_batchWeight_13 ?_
    exact x_weak [true, true] rfl (tj_X12_batchWeight_14 hX hs x1 1 M r Mr h)
  · replace h := (if_neg hc).symm.trans h
    refine x_iconst hX dX12_batchWeight_9 ?_
    refine x_goto (tgt := 14) hX dX12_batchWeight_10 (by decide) ?_
    exact x_weak [true, true] rfl (tj_X12_batchWeight_14 hX hs x1 0 M r Mr h)
theorem dX12_routes_0 : decode cX12_routes 0 = .ok (.aload_n 0, 1) := by decide +kernel
theorem dX12_routes_1 : decode cX12_routes 1 = .ok (.iload_n 1, 1) := by decide +kernel
theorem dX12_routes_2 : decode cX12_routes 2 = .ok (.invokevirtual 232, 3) := by decide +kernel
theorem dX12_routes_5 : decode cX12_routes 5 = .ok (.iconst 0, 1) := by decide +kernel
theorem dX12_routes_6 : decode cX12_routes 6 = .ok (.istore_n 3, 1) := by decide +kernel
theorem dX12_routes_7 : decode cX12_routes 7 = .ok (.iconst 0, 1) := by decide +kernel
theorem dX12_routes_8 : decode cX12_routes 8 = .ok (.istore 4, 2) := by decide +kernel
theorem dX12_routes_10 : decode cX12_routes 10 = .ok (.iload 4, 2) := by decide +kernel
theorem dX12_routes_12 : decode cX12_routes 12 = .ok (.aload_n 0, 1) := by decide +kernel
theorem dX12_routes_13 : decode cX12_routes 13 = .ok (.invokevirtual 77, 3) := by decide +kernel
theorem dX12_routes_16 : decode cX12_routes 16 = .ok (.if_icmp .ge 19, 3) := by decide +kernel
theorem dX12_routes_19 : decode cX12_routes 19 = .ok (.iload_n 3, 1) := by decide +kernel
theorem dX12_routes_20 : decode cX12_routes 20 = .ok (.aload_n 0, 1) := by decide +kernel
theorem dX12_routes_21 : decode cX12_routes 21 = .ok (.iload 4, 2) := by decide +kernel
theorem dX12_routes_23 : decode cX12_routes 23 = .ok (.iload_n 2, 1) := by decide +kernel
theorem dX12_routes_24 : decode cX12_routes 24 = .ok (.invokevirtual 235, 3) := by decide +kernel
theorem dX12_routes_27 : decode cX12_routes 27 = .ok (.iadd, 1) := by decide +kernel
theorem dX12_routes_28 : decode cX12_routes 28 = .ok (.istore_n 3, 1) := by decide +kernel
theorem dX12_routes_29 : decode cX12_routes 29 = .ok (.iinc 4 1, 3) := by decide +kernel
theorem dX12_routes_32 : decode cX12_routes 32 = .ok (.goto (-22), 3) := by decide +kernel
theorem dX12_routes_35 : decode cX12_routes 35 = .ok (.iload_n 3, 1) := by decide +kernel
theorem dX12_routes_36 : decode cX12_routes 36 = .ok (.ireturn, 1) := by decide +kernel
noncomputable def s_X12_routes_10  (x2 : Int) (x3 : Int) (x4 : Int) (M : Mem) : Option ((Int × Int × Mem) ⊕ ((Int × Mem) ⊕ (Int × Mem))) :=
  cl1 (f_X12_zones M) (fun r_3 => (if w32 x4 < w32 r_3 then cl2 (f_X12_routeOf x4 x2 M) (fun r_5 M_6 => bnd (x3 + r_5) (fun x3_7 => bnd (x4 + 1) (fun x4_8 => some (.inl (x3_7, x4_8, M_6))))) else some (.inr (.inl (x3, M)))))
set_option maxRecDepth 100000 in
set_option maxHeartbeats 4000000 in
theorem ts_X12_routes_10 {X : Cxt} (hX : Gd X RX12 cX12_routes 5 (some .int) 5) (hs : SOK (xG X))  (x2 : Int) (x3 : Int) (x4 : Int) (M : Mem) {Q : State → Prop} (o : (Int × Int × Mem) ⊕ ((Int × Mem) ⊕ (Int × Mem))) (h : s_X12_routes_10 x2 x3 x4 M = some o) (hP : ∀ y, o = .inl y → V X 0 0 Q 10 [some (vr (xG X) 139), none, some (vi x2), some (vi y.1), some (vi y.2.1)] [] y.2.2) (hE : ∀ z, o = .inr (.inl z) → V X 0 0 Q 35 [none, none, none, some (vi z.1), none] [] z.2) (hR : ∀ q, o = .inr (.inr q) → Q = Qn X (some (vi q.1)) q.2) : V X 0 0 Q 10 [some (vr (xG X) 139), none, some (vi x2), some (vi x3), some (vi x4)] [] M := by
  unfold s_X12_routes_10 at h
  refine x_iload hX dX12_routes_10 rfl ?_
  refine x_aloadn hX dX12_routes_12 rfl ?_
  obtain ⟨r_3, er_3, h⟩ := cl1_of h
  refine x_callVi (t := 11) (As := []) (rest := [vi x4]) hX dX12_routes_13 (c_X12_zones (gk hX) (gl hX) hs M _ er_3) kX12_zones vX12_zones w_1971 (st139 hs) rfl rfl rfl rfl (Nat.le_of_ble_eq_true rfl) z0 ?_
  refine x_icmp_ge (tgt := 35) hX dX12_routes_16 (by decide) rfl rfl (fun hc => ?_) (fun hc => ?_)
  · replace h := (if_pos hc).symm.trans h
    refine x_iloadn hX dX12_routes_19 rfl ?_
    refine x_aloadn hX dX12_routes_20 rfl ?_
    refine x_iload hX dX12_routes_21 rfl ?_
    refine x_iloadn hX dX12_routes_23 rfl ?_
    obtain ⟨r_5, M_6, er_5, h⟩ := cl2_of h
    refine x_callVi (t := 11) (As := [vi x4, vi x2]) (rest := [vi x3]) hX dX12_routes_24 (c_X12_routeOf (gk hX) (gl hX) hs x4 x2 M _ _ er_5) kX12_routeOf vX12_routeOf w_1975 (st139 hs) rfl rfl rfl rfl (Nat.le_of_ble_eq_true rfl) z0 ?_
    refine x_iadd hX dX12_routes_27 ?_
    obtain ⟨x3_7, ex3_7, h⟩ := bnd_of h
    refine x_istoren (ls' := [some (vr (xG X) 139), none, some (vi x2), some (vi x3_7), some (vi x4)]) hX dX12_routes_28 rfl ex3_7 rfl ?_
    obtain ⟨x4_8, ex4_8, h⟩ := bnd_of h
    refine x_iinc (ls' := [some (vr (xG X) 139), none, some (vi x2), some (vi x3_7), some (vi x4_8)]) hX dX12_routes_29 rfl rfl ex4_8 rfl ?_
    refine x_goto (tgt := 10) hX dX12_routes_32 (by decide) ?_
    exact x_weak [true, false, true, true, true] rfl (hP (x3_7, x4_8, M_6) (Option.some.inj h).symm)
  · replace h := (if_neg hc).symm.trans h
    exact x_weak [false, false, false, true, false] rfl (hE (x3, M) (Option.some.inj h).symm)
noncomputable def f_X12_routes  (x1 : Int) (x2 : Int) (M : Mem) : Option (Int × Mem) :=
  cl1 (f_X12_laysSpots x1 M) (fun M_2 => lpb (wh (fun x => s_X12_routes_10 x2 x.1 x.2.1 x.2.2) (0, 0, M_2)) (fun z_9 => some (z_9.1, z_9.2)) (fun q => some q))
set_option maxRecDepth 100000 in
set_option maxHeartbeats 4000000 in
theorem c_X12_routes {l : Launch} {G : Gx} (hG : GOK G) (hl : l.stackTraces = false) (hs : SOK G)  (x1 : Int) (x2 : Int) (M : Mem) (r : Int) (Mr : Mem) (h : f_X12_routes x1 x2 M = some (r, Mr)) : Cn l G mX12_routes 5 [vr G 139, vi x1, vi x2] M (some (vi r)) Mr := by
  refine Cn_of2 (ls := [some (vr G 139), some (vi x1), some (vi x2), none, none]) hG hl kX12_routes rfl (Nat.le_of_ble_eq_true rfl) rfl rfl rfl rfl rfl (fun X eG el hX => ?_)
  subst eG; subst el
  unfold f_X12_routes at h
  refine x_aloadn hX dX12_routes_0 rfl ?_
  refine x_iloadn hX dX12_routes_1 rfl ?_
  obtain ⟨M_2, er_1, h⟩ := cl1_of h
  refine x_callVv (t := 11) (As := [vi x1]) (rest := []) hX dX12_routes_2 (c_X12_laysSpots (gk hX) (gl hX) hs x1 M _ er_1) kX12_laysSpots vX12_laysSpots w_1967 (st139 hs) rfl rfl rfl rfl (Nat.le_of_ble_eq_true rfl) z0 ?_
  refine x_iconst hX dX12_routes_5 ?_
  refine x_istoren (ls' := [some (vr (xG X) 139), some (vi x1), some (vi x2), some (vi 0), none]) hX dX12_routes_6 rfl rfl rfl ?_
  refine x_iconst hX dX12_routes_7 ?_
  refine x_istore (ls' := [some (vr (xG X) 139), some (vi x1), some (vi x2), some (vi 0), some (vi 0)]) hX dX12_routes_8 rfl rfl rfl ?_
  refine x_weak (ls' := [some (vr (xG X) 139), none, some (vi x2), some (vi 0), some (vi 0)]) [true, false, true, true, true] rfl ?_
  refine lp_use (x := (0, 0, M_2)) (P := fun x => V X 0 0 (Qn X (some (vi r)) Mr) 10 [some (vr (xG X) 139), none, some (vi x2), some (vi x.1), some (vi x.2.1)] [] x.2.2) (PE := fun z_9 => V X 0 0 (Qn X (some (vi r)) Mr) 35 [none, none, none, some (vi z_9.1), none] [] z_9.2) (PR := fun q => (Qn X (some (vi r)) Mr) = Qn X (some (vi q.1)) q.2) h (fun x o hh hP hE hR => ts_X12_routes_10 hX hs x2 x.1 x.2.1 x.2.2 o hh hP hE hR) (fun z_9 h => ?_) (fun q h => ?_)
  · show V X 0 0 (Qn X (some (vi r)) Mr) 35 [none, none, none, some (vi z_9.1), none] [] z_9.2
    refine x_iloadn hX dX12_routes_35 rfl ?_
    cases h
    exact x_iret hX dX12_routes_36 rfl
  · cases h; rfl
theorem dX12_takes_0 : decode cX12_takes 0 = .ok (.aload_n 0, 1) := by decide +kernel
theorem dX12_takes_1 : decode cX12_takes 1 = .ok (.getfield 7, 3) := by decide +kernel
theorem dX12_takes_4 : decode cX12_takes 4 = .ok (.sipush 461, 3) := by decide +kernel
theorem dX12_takes_7 : decode cX12_takes 7 = .ok (.iload_n 1, 1) := by decide +kernel
theorem dX12_takes_8 : decode cX12_takes 8 = .ok (.iadd, 1) := by decide +kernel
theorem dX12_takes_9 : decode cX12_takes 9 = .ok (.iaload, 1) := by decide +kernel
theorem dX12_takes_10 : decode cX12_takes 10 = .ok (.istore 5, 2) := by decide +kernel
theorem dX12_takes_12 : decode cX12_takes 12 = .ok (.iload 5, 2) := by decide +kernel
theorem dX12_takes_14 : decode cX12_takes 14 = .ok (.invokestatic 156, 3) := by decide +kernel
theorem dX12_takes_17 : decode cX12_takes 17 = .ok (.iload_n 3, 1) := by decide +kernel
theorem dX12_takes_18 : decode cX12_takes 18 = .ok (.if_icmp .ge 24, 3) := by decide +kernel
theorem dX12_takes_21 : decode cX12_takes 21 = .ok (.aload_n 0, 1) := by decide +kernel
theorem dX12_takes_22 : decode cX12_takes 22 = .ok (.iload 5, 2) := by decide +kernel
theorem dX12_takes_24 : decode cX12_takes 24 = .ok (.invokevirtual 162, 3) := by decide +kernel
theorem dX12_takes_27 : decode cX12_takes 27 = .ok (.aload_n 0, 1) := by decide +kernel
theorem dX12_takes_28 : decode cX12_takes 28 = .ok (.iload_n 2, 1) := by decide +kernel
theorem dX12_takes_29 : decode cX12_takes 29 = .ok (.invokevirtual 130, 3) := by decide +kernel
theorem dX12_takes_32 : decode cX12_takes 32 = .ok (.iadd, 1) := by decide +kernel
theorem dX12_takes_33 : decode cX12_takes 33 = .ok (.iload 4, 2) := by decide +kernel
theorem dX12_takes_35 : decode cX12_takes 35 = .ok (.if_icmp .gt 7, 3) := by decide +kernel
theorem dX12_takes_38 : decode cX12_takes 38 = .ok (.iconst 1, 1) := by decide +kernel
theorem dX12_takes_39 : decode cX12_takes 39 = .ok (.goto 4, 3) := by decide +kernel
theorem dX12_takes_42 : decode cX12_takes 42 = .ok (.iconst 0, 1) := by decide +kernel
theorem dX12_takes_43 : decode cX12_takes 43 = .ok (.ireturn, 1) := by decide +kernel
noncomputable def f_X12_takes  (x1 : Int) (x2 : Int) (x3 : Int) (x4 : Int) (M : Mem) : Option (Int) :=
  gi (461 + x1) 469 (bnd (M 140 (ix (461 + x1))) (fun x5_2 => cl1 (f_X12_ones x5_2 M) (fun r_3 => (if w32 r_3 < w32 x3 then cl1 (f_X12_weightOfAll x5_2 M) (fun r_5 => cl1 (f_X12_weightOf x2 M) (fun r_7 => (if w32 x4 < w32 (r_5 + r_7) then some 0 else some 1))) else some 0))))
set_option maxRecDepth 100000 in
set_option maxHeartbeats 4000000 in
theorem c_X12_takes {l : Launch} {G : Gx} (hG : GOK G) (hl : l.stackTraces = false) (hs : SOK G)  (x1 : Int) (x2 : Int) (x3 : Int) (x4 : Int) (M : Mem) (r : Int) (h : f_X12_takes x1 x2 x3 x4 M = some r) : Cn l G mX12_takes 5 [vr G 139, vi x1, vi x2, vi x3, vi x4] M (some (vi r)) M := by
  refine Cn_of2 (ls := [some (vr G 139), some (vi x1), some (vi x2), some (vi x3), some (vi x4), none]) hG hl kX12_takes rfl (Nat.le_of_ble_eq_true rfl) rfl rfl rfl rfl rfl (fun X eG el hX => ?_)
  subst eG; subst el
  unfold f_X12_takes at h
  refine x_aloadn hX dX12_takes_0 rfl ?_
  refine x_getRj (j := 140) hX dX12_takes_1 fl_X12_7 rfl (st139 hs) rfl ?_
  refine x_sipush hX dX12_takes_4 sp_461 ?_
  refine x_iloadn hX dX12_takes_7 rfl ?_
  refine x_iadd hX dX12_takes_8 ?_
  obtain ⟨b_1, h⟩ := gi_of h
  refine x_iald hX dX12_takes_9 (st140 hs) b_1 rfl ?_
  obtain ⟨x5_2, ex5_2, h⟩ := bnd_of h
  refine x_istore (ls' := [some (vr (xG X) 139), some (vi x1), some (vi x2), some (vi x3), some (vi x4), some (vi x5_2)]) hX dX12_takes_10 rfl ex5_2 rfl ?_
  refine x_iload hX dX12_takes_12 rfl ?_
  obtain ⟨r_3, er_3, h⟩ := cl1_of h
  refine x_callSi (As := [vi x5_2]) (rest := []) hX dX12_takes_14 (c_X12_ones (gk hX) (gl hX) x5_2 M _ er_3) kX12_ones sX12_ones w_1896 rfl rfl rfl (Nat.le_of_ble_eq_true rfl) z0 ?_
  refine x_iloadn hX dX12_takes_17 rfl ?_
  refine x_icmp_ge (tgt := 42) hX dX12_takes_18 (by decide) rfl rfl (fun hc => ?_) (fun hc => ?_)
  · replace h := (if_pos hc).symm.trans h
    refine x_aloadn hX dX12_takes_21 rfl ?_
    refine x_iload hX dX12_takes_22 rfl ?_
    obtain ⟨r_5, er_5, h⟩ := cl1_of h
    refine x_callVi (t := 11) (As := [vi x5_2]) (rest := []) hX dX12_takes_24 (c_X12_weightOfAll (gk hX) (gl hX) hs x5_2 M _ er_5) kX12_weightOfAll vX12_weightOfAll w_1903 (st139 hs) rfl rfl rfl rfl (Nat.le_of_ble_eq_true rfl) z0 ?_
    refine x_aloadn hX dX12_takes_27 rfl ?_
    refine x_iloadn hX dX12_takes_28 rfl ?_
    obtain ⟨r_7, er_7, h⟩ := cl1_of h
    refine x_callVi (t := 11) (As := [vi x2]) (rest := [vi r_5]) hX dX12_takes_29 (c_X12_weightOf (gk hX) (gl hX) hs x2 M _ er_7) kX12_weightOf vX12_weightOf w_1844 (st139 hs) rfl rfl rfl rfl (Nat.le_of_ble_eq_true rfl) z0 ?_
    refine x_iadd hX dX12_takes_32 ?_
    refine x_iload hX dX12_takes_33 rfl ?_
    refine x_icmp_gt (tgt := 42) hX dX12_takes_35 (by decide) rfl rfl (fun hc => ?_) (fun hc => ?_)
    · replace h := (if_pos hc).symm.trans h
      refine x_iconst hX dX12_takes_42 ?_
      cases h
      exact x_zret hX dX12_takes_43 (Or.inl cw_0) rfl
    · replace h := (if_neg hc).symm.trans h
      refine x_iconst hX dX12_takes_38 ?_
      refine x_goto (tgt := 43) hX dX12_takes_39 (by decide) ?_
      cases h
      exact x_zret hX dX12_takes_43 (Or.inr cw_1) rfl
  · replace h := (if_neg hc).symm.trans h
    refine x_iconst hX dX12_takes_42 ?_
    cases h
    exact x_zret hX dX12_takes_43 (Or.inl cw_0) rfl
theorem dX12_routeLength_0 : decode cX12_routeLength 0 = .ok (.aload_n 0, 1) := by decide +kernel
theorem dX12_routeLength_1 : decode cX12_routeLength 1 = .ok (.aload_n 0, 1) := by decide +kernel
theorem dX12_routeLength_2 : decode cX12_routeLength 2 = .ok (.iload_n 1, 1) := by decide +kernel
theorem dX12_routeLength_3 : decode cX12_routeLength 3 = .ok (.iload_n 2, 1) := by decide +kernel
theorem dX12_routeLength_4 : decode cX12_routeLength 4 = .ok (.invokevirtual 260, 3) := by decide +kernel
theorem dX12_routeLength_7 : decode cX12_routeLength 7 = .ok (.ifCond .ne 7, 3) := by decide +kernel
theorem dX12_routeLength_10 : decode cX12_routeLength 10 = .ok (.iconst 1, 1) := by decide +kernel
theorem dX12_routeLength_11 : decode cX12_routeLength 11 = .ok (.goto 17, 3) := by decide +kernel
theorem dX12_routeLength_14 : decode cX12_routeLength 14 = .ok (.iload_n 3, 1) := by decide +kernel
theorem dX12_routeLength_15 : decode cX12_routeLength 15 = .ok (.iconst 0, 1) := by decide +kernel
theorem dX12_routeLength_16 : decode cX12_routeLength 16 = .ok (.iconst 3, 1) := by decide +kernel
theorem dX12_routeLength_17 : decode cX12_routeLength 17 = .ok (.invokestatic 73, 3) := by decide +kernel
theorem dX12_routeLength_20 : decode cX12_routeLength 20 = .ok (.ifCond .ne 7, 3) := by decide +kernel
theorem dX12_routeLength_23 : decode cX12_routeLength 23 = .ok (.iconst 2, 1) := by decide +kernel
theorem dX12_routeLength_24 : decode cX12_routeLength 24 = .ok (.goto 4, 3) := by decide +kernel
theorem dX12_routeLength_27 : decode cX12_routeLength 27 = .ok (.iconst 0, 1) := by decide +kernel
theorem dX12_routeLength_28 : decode cX12_routeLength 28 = .ok (.putfield 70, 3) := by decide +kernel
theorem dX12_routeLength_31 : decode cX12_routeLength 31 = .ok (.aload_n 0, 1) := by decide +kernel
theorem dX12_routeLength_32 : decode cX12_routeLength 32 = .ok (.getfield 70, 3) := by decide +kernel
theorem dX12_routeLength_35 : decode cX12_routeLength 35 = .ok (.ifCond .le 5, 3) := by decide +kernel
theorem dX12_routeLength_38 : decode cX12_routeLength 38 = .ok (.iconst 0, 1) := by decide +kernel
theorem dX12_routeLength_39 : decode cX12_routeLength 39 = .ok (.ireturn, 1) := by decide +kernel
theorem dX12_routeLength_40 : decode cX12_routeLength 40 = .ok (.aload_n 0, 1) := by decide +kernel
theorem dX12_routeLength_41 : decode cX12_routeLength 41 = .ok (.aload_n 0, 1) := by decide +kernel
theorem dX12_routeLength_42 : decode cX12_routeLength 42 = .ok (.getfield 7, 3) := by decide +kernel
theorem dX12_routeLength_45 : decode cX12_routeLength 45 = .ok (.sipush 461, 3) := by decide +kernel
theorem dX12_routeLength_48 : decode cX12_routeLength 48 = .ok (.iload_n 1, 1) := by decide +kernel
theorem dX12_routeLength_49 : decode cX12_routeLength 49 = .ok (.iadd, 1) := by decide +kernel
theorem dX12_routeLength_50 : decode cX12_routeLength 50 = .ok (.iaload, 1) := by decide +kernel
theorem dX12_routeLength_51 : decode cX12_routeLength 51 = .ok (.invokevirtual 232, 3) := by decide +kernel
theorem dX12_routeLength_54 : decode cX12_routeLength 54 = .ok (.aload_n 0, 1) := by decide +kernel
theorem dX12_routeLength_55 : decode cX12_routeLength 55 = .ok (.iload_n 2, 1) := by decide +kernel
theorem dX12_routeLength_56 : decode cX12_routeLength 56 = .ok (.iload_n 3, 1) := by decide +kernel
theorem dX12_routeLength_57 : decode cX12_routeLength 57 = .ok (.invokevirtual 235, 3) := by decide +kernel
theorem dX12_routeLength_60 : decode cX12_routeLength 60 = .ok (.ireturn, 1) := by decide +kernel
noncomputable def j_X12_routeLength_28   (x1 : Int) (x2 : Int) (x3 : Int) (y1 : Int) (M : Mem) : Option (Int × Mem) :=
  bnd (upd2 M 139 0 y1) (fun M_3 => (if 0 < w32 (M_3 139 0) then some (0, M_3) else gi (461 + x1) 469 (cl1 (f_X12_laysSpots (M_3 140 (ix (461 + x1))) M_3) (fun M_6 => cl2 (f_X12_routeOf x2 x3 M_6) (fun r_7 M_8 => some (r_7, M_8))))))
set_option maxRecDepth 100000 in
set_option maxHeartbeats 4000000 in
theorem tj_X12_routeLength_28 {X : Cxt} (hX : Gd X RX12 cX12_routeLength 4 (some .int) 5) (hs : SOK (xG X))   (x1 : Int) (x2 : Int) (x3 : Int) (y1 : Int) (M : Mem) (r : Int) (Mr : Mem) (h : j_X12_routeLength_28 x1 x2 x3 y1 M = some (r, Mr)) : V X 0 0 (Qn X (some (vi r)) Mr) 28 [some (vr (xG X) 139), some (vi x1), some (vi x2), some (vi x3)] [vi y1, vr (xG X) 139] M := by
  unfold j_X12_routeLength_28 at h
  obtain ⟨M_3, eM_3, h⟩ := bnd_of h
  refine x_putI hX dX12_routeLength_28 fp_X12_70 rfl (st139 hs) (x_meq eM_3 ?_)
  refine x_aloadn hX dX12_routeLength_31 rfl ?_
  refine x_getI hX dX12_routeLength_32 fl_X12_70 rfl (st139 hs) ?_
  refine x_if_le (tgt := 40) hX dX12_routeLength_35 (by decide) rfl (fun hc => ?_) (fun hc => ?_)
  · replace h := (if_pos hc).symm.trans h
    refine x_iconst hX dX12_routeLength_38 ?_
    cases h
    exact x_iret hX dX12_routeLength_39 rfl
  · replace h := (if_neg hc).symm.trans h
    refine x_aloadn hX dX12_routeLength_40 rfl ?_
    refine x_aloadn hX dX12_routeLength_41 rfl ?_
    refine x_getRj (j := 140) hX dX12_routeLength_42 fl_X12_7 rfl (st139 hs) rfl ?_
    refine x_sipush hX dX12_routeLength_45 sp_461 ?_
    refine x_iloadn hX dX12_routeLength_48 rfl ?_
    refine x_iadd hX dX12_routeLength_49 ?_
    obtain ⟨b_4, h⟩ := gi_of h
    refine x_iald hX dX12_routeLength_50 (st140 hs) b_4 rfl ?_
    obtain ⟨M_6, er_5, h⟩ := cl1_of h
    refine x_callVv (t := 11) (As := [vi (M_3 140 (ix (461 + x1)))]) (rest := []) hX dX12_routeLength_51 (c_X12_laysSpots (gk hX) (gl hX) hs (M_3 140 (ix (461 + x1))) M_3 _ er_5) kX12_laysSpots vX12_laysSpots w_1967 (st139 hs) rfl rfl rfl rfl (Nat.le_of_ble_eq_true rfl) z0 ?_
    refine x_aloadn hX dX12_routeLength_54 rfl ?_
    refine x_iloadn hX dX12_routeLength_55 rfl ?_
    refine x_iloadn hX dX12_routeLength_56 rfl ?_
    obtain ⟨r_7, M_8, er_7, h⟩ := cl2_of h
    refine x_callVi (t := 11) (As := [vi x2, vi x3]) (rest := []) hX dX12_routeLength_57 (c_X12_routeOf (gk hX) (gl hX) hs x2 x3 M_6 _ _ er_7) kX12_routeOf vX12_routeOf w_1975 (st139 hs) rfl rfl rfl rfl (Nat.le_of_ble_eq_true rfl) z0 ?_
    cases h
    exact x_iret hX dX12_routeLength_60 rfl
noncomputable def f_X12_routeLength  (x1 : Int) (x2 : Int) (x3 : Int) (M : Mem) : Option (Int × Mem) :=
  cl1 (f_X12_isPart x1 x2 M) (fun r_1 => (if w32 r_1 = 0 then j_X12_routeLength_28 x1 x2 x3 1 M else cl1 (f_X12_in x3 0 3 M) (fun r_9 => (if w32 r_9 = 0 then j_X12_routeLength_28 x1 x2 x3 2 M else j_X12_routeLength_28 x1 x2 x3 0 M))))
set_option maxRecDepth 100000 in
set_option maxHeartbeats 4000000 in
theorem c_X12_routeLength {l : Launch} {G : Gx} (hG : GOK G) (hl : l.stackTraces = false) (hs : SOK G)  (x1 : Int) (x2 : Int) (x3 : Int) (M : Mem) (r : Int) (Mr : Mem) (h : f_X12_routeLength x1 x2 x3 M = some (r, Mr)) : Cn l G mX12_routeLength 5 [vr G 139, vi x1, vi x2, vi x3] M (some (vi r)) Mr := by
  refine Cn_of2 (ls := [some (vr G 139), some (vi x1), some (vi x2), some (vi x3)]) hG hl kX12_routeLength rfl (Nat.le_of_ble_eq_true rfl) rfl rfl rfl rfl rfl (fun X eG el hX => ?_)
  subst eG; subst el
  unfold f_X12_routeLength at h
  refine x_aloadn hX dX12_routeLength_0 rfl ?_
  refine x_aloadn hX dX12_routeLength_1 rfl ?_
  refine x_iloadn hX dX12_routeLength_2 rfl ?_
  refine x_iloadn hX dX12_routeLength_3 rfl ?_
  obtain ⟨r_1, er_1, h⟩ := cl1_of h
  refine x_callVi (t := 11) (As := [vi x1, vi x2]) (rest := [vr (xG X) 139]) hX dX12_routeLength_4 (c_X12_isPart (gk hX) (gl hX) hs x1 x2 M _ er_1) kX12_isPart vX12_isPart w_2051 (st139 hs) rfl rfl rfl rfl (Nat.le_of_ble_eq_true rfl) z0 ?_
  refine x_if_ne (tgt := 14) hX dX12_routeLength_7 (by decide) rfl (fun hc => ?_) (fun hc => ?_)
  · replace h := (if_pos hc).symm.trans h
    refine x_iconst hX dX12_routeLength_10 ?_
    refine x_goto (tgt := 28) hX dX12_routeLength_11 (by decide) ?_
    exact x_weak [true, true, true, true] rfl (tj_X12_routeLength_28 hX hs x1 x2 x3 1 M r Mr h)
  · replace h := (if_neg hc).symm.trans h
    refine x_iloadn hX dX12_routeLength_14 rfl ?_
    refine x_iconst hX dX12_routeLength_15 ?_
    refine x_iconst hX dX12_routeLength_16 ?_
    obtain ⟨r_9, er_9, h⟩ := cl1_of h
    refine x_callSi (As := [vi x3, vi 0, vi 3]) (rest := [vr (xG X) 139]) hX dX12_routeLength_17 (c_X12_in (gk hX) (gl hX) x3 0 3 M _ er_9) kX12_in sX12_in w_1735 rfl rfl rfl (Nat.le_of_ble_eq_true rfl) z0 ?_
    refine x_if_ne (tgt := 27) hX dX12_routeLength_20 (by decide) rfl (fun hc => ?_) (fun hc => ?_)
    · replace h := (if_pos hc).symm.trans h
      refine x_iconst hX dX12_routeLength_23 ?_
      refine x_goto (tgt := 28) hX dX12_routeLength_24 (by decide) ?_
      exact x_weak [true, true, true, true] rfl (tj_X12_routeLength_28 hX hs x1 x2 x3 2 M r Mr h)
    · replace h := (if_neg hc).symm.trans h
      refine x_iconst hX dX12_routeLength_27 ?_
      exact x_weak [true, true, true, true] rfl (tj_X12_routeLength_28 hX hs x1 x2 x3 0 M r Mr h)
theorem dX12_stopsByGaps_0 : decode cX12_stopsByGaps 0 = .ok (.aload_n 0, 1) := by decide +kernel
theorem dX12_stopsByGaps_1 : decode cX12_stopsByGaps 1 = .ok (.getfield 190, 3) := by decide +kernel
theorem dX12_stopsByGaps_4 : decode cX12_stopsByGaps 4 = .ok (.iconst 1, 1) := by decide +kernel
theorem dX12_stopsByGaps_5 : decode cX12_stopsByGaps 5 = .ok (.isub, 1) := by decide +kernel
theorem dX12_stopsByGaps_6 : decode cX12_stopsByGaps 6 = .ok (.istore_n 1, 1) := by decide +kernel
theorem dX12_stopsByGaps_7 : decode cX12_stopsByGaps 7 = .ok (.aload_n 0, 1) := by decide +kernel
theorem dX12_stopsByGaps_8 : decode cX12_stopsByGaps 8 = .ok (.aload_n 0, 1) := by decide +kernel
theorem dX12_stopsByGaps_9 : decode cX12_stopsByGaps 9 = .ok (.getfield 29, 3) := by decide +kernel
theorem dX12_stopsByGaps_12 : decode cX12_stopsByGaps 12 = .ok (.iconst 0, 1) := by decide +kernel
theorem dX12_stopsByGaps_13 : decode cX12_stopsByGaps 13 = .ok (.iaload, 1) := by decide +kernel
theorem dX12_stopsByGaps_14 : decode cX12_stopsByGaps 14 = .ok (.iconst 1, 1) := by decide +kernel
theorem dX12_stopsByGaps_15 : decode cX12_stopsByGaps 15 = .ok (.invokevirtual 275, 3) := by decide +kernel
theorem dX12_stopsByGaps_18 : decode cX12_stopsByGaps 18 = .ok (.iconst 1, 1) := by decide +kernel
theorem dX12_stopsByGaps_19 : decode cX12_stopsByGaps 19 = .ok (.istore_n 2, 1) := by decide +kernel
theorem dX12_stopsByGaps_20 : decode cX12_stopsByGaps 20 = .ok (.iload_n 2, 1) := by decide +kernel
theorem dX12_stopsByGaps_21 : decode cX12_stopsByGaps 21 = .ok (.iload_n 1, 1) := by decide +kernel
theorem dX12_stopsByGaps_22 : decode cX12_stopsByGaps 22 = .ok (.if_icmp .ge 41, 3) := by decide +kernel
theorem dX12_stopsByGaps_25 : decode cX12_stopsByGaps 25 = .ok (.aload_n 0, 1) := by decide +kernel
theorem dX12_stopsByGaps_26 : decode cX12_stopsByGaps 26 = .ok (.aload_n 0, 1) := by decide +kernel
theorem dX12_stopsByGaps_27 : decode cX12_stopsByGaps 27 = .ok (.getfield 29, 3) := by decide +kernel
theorem dX12_stopsByGaps_30 : decode cX12_stopsByGaps 30 = .ok (.iload_n 2, 1) := by decide +kernel
theorem dX12_stopsByGaps_31 : decode cX12_stopsByGaps 31 = .ok (.iaload, 1) := by decide +kernel
theorem dX12_stopsByGaps_32 : decode cX12_stopsByGaps 32 = .ok (.invokevirtual 217, 3) := by decide +kernel
theorem dX12_stopsByGaps_35 : decode cX12_stopsByGaps 35 = .ok (.aload_n 0, 1) := by decide +kernel
theorem dX12_stopsByGaps_36 : decode cX12_stopsByGaps 36 = .ok (.aload_n 0, 1) := by decide +kernel
theorem dX12_stopsByGaps_37 : decode cX12_stopsByGaps 37 = .ok (.getfield 29, 3) := by decide +kernel
theorem dX12_stopsByGaps_40 : decode cX12_stopsByGaps 40 = .ok (.iload_n 2, 1) := by decide +kernel
theorem dX12_stopsByGaps_41 : decode cX12_stopsByGaps 41 = .ok (.iaload, 1) := by decide +kernel
theorem dX12_stopsByGaps_42 : decode cX12_stopsByGaps 42 = .ok (.aload_n 0, 1) := by decide +kernel
theorem dX12_stopsByGaps_43 : decode cX12_stopsByGaps 43 = .ok (.getfield 7, 3) := by decide +kernel
theorem dX12_stopsByGaps_46 : decode cX12_stopsByGaps 46 = .ok (.iconst 1, 1) := by decide +kernel
theorem dX12_stopsByGaps_47 : decode cX12_stopsByGaps 47 = .ok (.iaload, 1) := by decide +kernel
theorem dX12_stopsByGaps_48 : decode cX12_stopsByGaps 48 = .ok (.aload_n 0, 1) := by decide +kernel
theorem dX12_stopsByGaps_49 : decode cX12_stopsByGaps 49 = .ok (.getfield 199, 3) := by decide +kernel
theorem dX12_stopsByGaps_52 : decode cX12_stopsByGaps 52 = .ok (.iconst 1, 1) := by decide +kernel
theorem dX12_stopsByGaps_53 : decode cX12_stopsByGaps 53 = .ok (.iadd, 1) := by decide +kernel
theorem dX12_stopsByGaps_54 : decode cX12_stopsByGaps 54 = .ok (.invokevirtual 272, 3) := by decide +kernel
theorem dX12_stopsByGaps_57 : decode cX12_stopsByGaps 57 = .ok (.iinc 2 1, 3) := by decide +kernel
theorem dX12_stopsByGaps_60 : decode cX12_stopsByGaps 60 = .ok (.goto (-40), 3) := by decide +kernel
theorem dX12_stopsByGaps_63 : decode cX12_stopsByGaps 63 = .ok (.aload_n 0, 1) := by decide +kernel
theorem dX12_stopsByGaps_64 : decode cX12_stopsByGaps 64 = .ok (.aload_n 0, 1) := by decide +kernel
theorem dX12_stopsByGaps_65 : decode cX12_stopsByGaps 65 = .ok (.getfield 29, 3) := by decide +kernel
theorem dX12_stopsByGaps_68 : decode cX12_stopsByGaps 68 = .ok (.iload_n 1, 1) := by decide +kernel
theorem dX12_stopsByGaps_69 : decode cX12_stopsByGaps 69 = .ok (.iaload, 1) := by decide +kernel
theorem dX12_stopsByGaps_70 : decode cX12_stopsByGaps 70 = .ok (.iconst 0, 1) := by decide +kernel
theorem dX12_stopsByGaps_71 : decode cX12_stopsByGaps 71 = .ok (.invokevirtual 275, 3) := by decide +kernel
theorem dX12_stopsByGaps_74 : decode cX12_stopsByGaps 74 = .ok (.iload_n 1, 1) := by decide +kernel
theorem dX12_stopsByGaps_75 : decode cX12_stopsByGaps 75 = .ok (.iconst 1, 1) := by decide +kernel
theorem dX12_stopsByGaps_76 : decode cX12_stopsByGaps 76 = .ok (.isub, 1) := by decide +kernel
theorem dX12_stopsByGaps_77 : decode cX12_stopsByGaps 77 = .ok (.istore_n 2, 1) := by decide +kernel
theorem dX12_stopsByGaps_78 : decode cX12_stopsByGaps 78 = .ok (.iload_n 2, 1) := by decide +kernel
theorem dX12_stopsByGaps_79 : decode cX12_stopsByGaps 79 = .ok (.ifCond .le 34, 3) := by decide +kernel
theorem dX12_stopsByGaps_82 : decode cX12_stopsByGaps 82 = .ok (.aload_n 0, 1) := by decide +kernel
theorem dX12_stopsByGaps_83 : decode cX12_stopsByGaps 83 = .ok (.aload_n 0, 1) := by decide +kernel
theorem dX12_stopsByGaps_84 : decode cX12_stopsByGaps 84 = .ok (.getfield 29, 3) := by decide +kernel
theorem dX12_stopsByGaps_87 : decode cX12_stopsByGaps 87 = .ok (.iload_n 2, 1) := by decide +kernel
theorem dX12_stopsByGaps_88 : decode cX12_stopsByGaps 88 = .ok (.iaload, 1) := by decide +kernel
theorem dX12_stopsByGaps_89 : decode cX12_stopsByGaps 89 = .ok (.invokevirtual 217, 3) := by decide +kernel
theorem dX12_stopsByGaps_92 : decode cX12_stopsByGaps 92 = .ok (.aload_n 0, 1) := by decide +kernel
theorem dX12_stopsByGaps_93 : decode cX12_stopsByGaps 93 = .ok (.aload_n 0, 1) := by decide +kernel
theorem dX12_stopsByGaps_94 : decode cX12_stopsByGaps 94 = .ok (.getfield 29, 3) := by decide +kernel
theorem dX12_stopsByGaps_97 : decode cX12_stopsByGaps 97 = .ok (.iload_n 2, 1) := by decide +kernel
theorem dX12_stopsByGaps_98 : decode cX12_stopsByGaps 98 = .ok (.iaload, 1) := by decide +kernel
theorem dX12_stopsByGaps_99 : decode cX12_stopsByGaps 99 = .ok (.iconst 1, 1) := by decide +kernel
theorem dX12_stopsByGaps_100 : decode cX12_stopsByGaps 100 = .ok (.aload_n 0, 1) := by decide +kernel
theorem dX12_stopsByGaps_101 : decode cX12_stopsByGaps 101 = .ok (.getfield 199, 3) := by decide +kernel
theorem dX12_stopsByGaps_104 : decode cX12_stopsByGaps 104 = .ok (.invokevirtual 269, 3) := by decide +kernel
theorem dX12_stopsByGaps_107 : decode cX12_stopsByGaps 107 = .ok (.iinc 2 (-1), 3) := by decide +kernel
theorem dX12_stopsByGaps_110 : decode cX12_stopsByGaps 110 = .ok (.goto (-32), 3) := by decide +kernel
theorem dX12_stopsByGaps_113 : decode cX12_stopsByGaps 113 = .ok (.return_, 1) := by decide +kernel
noncomputable def s_X12_stopsByGaps_20  (x1 : Int) (x2 : Int) (M : Mem) : Option ((Int × Mem) ⊕ ((Mem) ⊕ (Mem))) :=
  (if w32 x2 < w32 x1 then gi x2 6 (cl1 (f_X12_seeksGap (M 146 (ix x2)) M) (fun M_6 => gi x2 6 (cl1 (f_X12_goesDown (M_6 146 (ix x2)) (M_6 140 1) ((M_6 139 9) + 1) M_6) (fun M_9 => bnd (x2 + 1) (fun x2_10 => some (.inl (x2_10, M_9))))))) else some (.inr (.inl M)))
set_option maxRecDepth 100000 in
set_option maxHeartbeats 4000000 in
theorem ts_X12_stopsByGaps_20 {X : Cxt} (hX : Gd X RX12 cX12_stopsByGaps 3 (none) 5) (hs : SOK (xG X))  (x1 : Int) (x2 : Int) (M : Mem) {Q : State → Prop} (o : (Int × Mem) ⊕ ((Mem) ⊕ (Mem))) (h : s_X12_stopsByGaps_20 x1 x2 M = some o) (hP : ∀ y, o = .inl y → V X 0 0 Q 20 [some (vr (xG X) 139), some (vi x1), some (vi y.1)] [] y.2) (hE : ∀ z, o = .inr (.inl z) → V X 0 0 Q 63 [some (vr (xG X) 139), some (vi x1), none] [] z) (hR : ∀ q, o = .inr (.inr q) → Q = Qn X none q) : V X 0 0 Q 20 [some (vr (xG X) 139), some (vi x1), some (vi x2)] [] M := by
  unfold s_X12_stopsByGaps_20 at h
  refine x_iloadn hX dX12_stopsByGaps_20 rfl ?_
  refine x_iloadn hX dX12_stopsByGaps_21 rfl ?_
  refine x_icmp_ge (tgt := 63) hX dX12_stopsByGaps_22 (by decide) rfl rfl (fun hc => ?_) (fun hc => ?_)
  · replace h := (if_pos hc).symm.trans h
    refine x_aloadn hX dX12_stopsByGaps_25 rfl ?_
    refine x_aloadn hX dX12_stopsByGaps_26 rfl ?_
    refine x_getRj (j := 146) hX dX12_stopsByGaps_27 fl_X12_29 rfl (st139 hs) rfl ?_
    refine x_iloadn hX dX12_stopsByGaps_30 rfl ?_
    obtain ⟨b_4, h⟩ := gi_of h
    refine x_iald hX dX12_stopsByGaps_31 (st146 hs) b_4 rfl ?_
    obtain ⟨M_6, er_5, h⟩ := cl1_of h
    refine x_callVv (t := 11) (As := [vi (M 146 (ix x2))]) (rest := []) hX dX12_stopsByGaps_32 (c_X12_seeksGap (gk hX) (gl hX) hs (M 146 (ix x2)) M _ er_5) kX12_seeksGap vX12_seeksGap w_2011 (st139 hs) rfl rfl rfl rfl (Nat.le_of_ble_eq_true rfl) z0 ?_
    refine x_aloadn hX dX12_stopsByGaps_35 rfl ?_
    refine x_aloadn hX dX12_stopsByGaps_36 rfl ?_
    refine x_getRj (j := 146) hX dX12_stopsByGaps_37 fl_X12_29 rfl (st139 hs) rfl ?_
    refine x_iloadn hX dX12_stopsByGaps_40 rfl ?_
    obtain ⟨b_7, h⟩ := gi_of h
    refine x_iald hX dX12_stopsByGaps_41 (st146 hs) b_7 rfl ?_
    refine x_aloadn hX dX12_stopsByGaps_42 rfl ?_
    refine x_getRj (j := 140) hX dX12_stopsByGaps_43 fl_X12_7 rfl (st139 hs) rfl ?_
    refine x_iconst hX dX12_stopsByGaps_46 ?_
    refine x_iald hX dX12_stopsByGaps_47 (st140 hs) inc_1_469 ixc_1 ?_
    refine x_aloadn hX dX12_stopsByGaps_48 rfl ?_
    refine x_getI hX dX12_stopsByGaps_49 fl_X12_199 rfl (st139 hs) ?_
    refine x_iconst hX dX12_stopsByGaps_52 ?_
    refine x_iadd hX dX12_stopsByGaps_53 ?_
    obtain ⟨M_9, er_8, h⟩ := cl1_of h
    refine x_callVv (t := 11) (As := [vi (M_6 146 (ix x2)), vi (M_6 140 1), vi ((M_6 139 9) + 1)]) (rest := []) hX dX12_stopsByGaps_54 (c_X12_goesDown (gk hX) (gl hX) hs (M_6 146 (ix x2)) (M_6 140 1) ((M_6 139 9) + 1) M_6 _ er_8) kX12_goesDown vX12_goesDown w_2091 (st139 hs) rfl rfl rfl rfl (Nat.le_of_ble_eq_true rfl) z0 ?_
    obtain ⟨x2_10, ex2_10, h⟩ := bnd_of h
    refine x_iinc (ls' := [some (vr (xG X) 139), some (vi x1), some (vi x2_10)]) hX dX12_stopsByGaps_57 rfl rfl ex2_10 rfl ?_
    refine x_goto (tgt := 20) hX dX12_stopsByGaps_60 (by decide) ?_
    exact x_weak [true, true, true] rfl (hP (x2_10, M_9) (Option.some.inj h).symm)
  · replace h := (if_neg hc).symm.trans h
    exact x_weak [true, true, false] rfl (hE M (Option.some.inj h).symm)
noncomputable def s_X12_stopsByGaps_78  (x2 : Int) (M : Mem) : Option ((Int × Mem) ⊕ ((Mem) ⊕ (Mem))) :=
  (if 0 < w32 x2 then gi x2 6 (cl1 (f_X12_seeksGap (M 146 (ix x2)) M) (fun M_18 => gi x2 6 (cl1 (f_X12_goesUp (M_18 146 (ix x2)) 1 (M_18 139 9) M_18) (fun M_21 => bnd (x2 + (-1)) (fun x2_22 => some (.inl (x2_22, M_21))))))) else some (.inr (.inl M)))
set_option maxRecDepth 100000 in
set_option maxHeartbeats 4000000 in
theorem ts_X12_stopsByGaps_78 {X : Cxt} (hX : Gd X RX12 cX12_stopsByGaps 3 (none) 5) (hs : SOK (xG X))  (x2 : Int) (M : Mem) {Q : State → Prop} (o : (Int × Mem) ⊕ ((Mem) ⊕ (Mem))) (h : s_X12_stopsByGaps_78 x2 M = some o) (hP : ∀ y, o = .inl y → V X 0 0 Q 78 [some (vr (xG X) 139), none, some (vi y.1)] [] y.2) (hE : ∀ z, o = .inr (.inl z) → V X 0 0 Q 113 [none, none, none] [] z) (hR : ∀ q, o = .inr (.inr q) → Q = Qn X none q) : V X 0 0 Q 78 [some (vr (xG X) 139), none, some (vi x2)] [] M := by
  unfold s_X12_stopsByGaps_78 at h
  refine x_iloadn hX dX12_stopsByGaps_78 rfl ?_
  refine x_if_le (tgt := 113) hX dX12_stopsByGaps_79 (by decide) rfl (fun hc => ?_) (fun hc => ?_)
  · replace h := (if_pos hc).symm.trans h
    refine x_aloadn hX dX12_stopsByGaps_82 rfl ?_
    refine x_aloadn hX dX12_stopsByGaps_83 rfl ?_
    refine x_getRj (j := 146) hX dX12_stopsByGaps_84 fl_X12_29 rfl (st139 hs) rfl ?_
    refine x_iloadn hX dX12_stopsByGaps_87 rfl ?_
    obtain ⟨b_16, h⟩ := gi_of h
    refine x_iald hX dX12_stopsByGaps_88 (st146 hs) b_16 rfl ?_
    obtain ⟨M_18, er_17, h⟩ := cl1_of h
    refine x_callVv (t := 11) (As := [vi (M 146 (ix x2))]) (rest := []) hX dX12_stopsByGaps_89 (c_X12_seeksGap (gk hX) (gl hX) hs (M 146 (ix x2)) M _ er_17) kX12_seeksGap vX12_seeksGap w_2011 (st139 hs) rfl rfl rfl rfl (Nat.le_of_ble_eq_true rfl) z0 ?_
    refine x_aloadn hX dX12_stopsByGaps_92 rfl ?_
    refine x_aloadn hX dX12_stopsByGaps_93 rfl ?_
    refine x_getRj (j := 146) hX dX12_stopsByGaps_94 fl_X12_29 rfl (st139 hs) rfl ?_
    refine x_iloadn hX dX12_stopsByGaps_97 rfl ?_
    obtain ⟨b_19, h⟩ := gi_of h
    refine x_iald hX dX12_stopsByGaps_98 (st146 hs) b_19 rfl ?_
    refine x_iconst hX dX12_stopsByGaps_99 ?_
    refine x_aloadn hX dX12_stopsByGaps_100 rfl ?_
    refine x_getI hX dX12_stopsByGaps_101 fl_X12_199 rfl (st139 hs) ?_
    obtain ⟨M_21, er_20, h⟩ := cl1_of h
    refine x_callVv (t := 11) (As := [vi (M_18 146 (ix x2)), vi 1, vi (M_18 139 9)]) (rest := []) hX dX12_stopsByGaps_104 (c_X12_goesUp (gk hX) (gl hX) hs (M_18 146 (ix x2)) 1 (M_18 139 9) M_18 _ er_20) kX12_goesUp vX12_goesUp w_2083 (st139 hs) rfl rfl rfl rfl (Nat.le_of_ble_eq_true rfl) z0 ?_
    obtain ⟨x2_22, ex2_22, h⟩ := bnd_of h
    refine x_iinc (ls' := [some (vr (xG X) 139), none, some (vi x2_22)]) hX dX12_stopsByGaps_107 rfl rfl ex2_22 rfl ?_
    refine x_goto (tgt := 78) hX dX12_stopsByGaps_110 (by decide) ?_
    exact x_weak [true, false, true] rfl (hP (x2_22, M_21) (Option.some.inj h).symm)
  · replace h := (if_neg hc).symm.trans h
    exact x_weak [false, false, false] rfl (hE M (Option.some.inj h).symm)
noncomputable def f_X12_stopsByGaps  (M : Mem) : Option (Mem) :=
  bnd ((M 139 8) - 1) (fun x1_1 => cl1 (f_X12_goes (M 146 0) 1 M) (fun M_3 => lpb (wh (fun x => s_X12_stopsByGaps_20 x1_1 x.1 x.2) (1, M_3)) (fun z_11 => gi x1_1 6 (cl1 (f_X12_goes (z_11 146 (ix x1_1)) 0 z_11) (fun M_14 => bnd (x1_1 - 1) (fun x2_15 => lpb (wh (fun x => s_X12_stopsByGaps_78 x.1 x.2) (x2_15, M_14)) (fun z_23 => some z_23) (fun q => some q))))) (fun q => some q)))
set_option maxRecDepth 100000 in
set_option maxHeartbeats 4000000 in
theorem c_X12_stopsByGaps {l : Launch} {G : Gx} (hG : GOK G) (hl : l.stackTraces = false) (hs : SOK G)  (M : Mem) (Mr : Mem) (h : f_X12_stopsByGaps M = some Mr) : Cn l G mX12_stopsByGaps 5 [vr G 139] M none Mr := by
  refine Cn_of2 (ls := [some (vr G 139), none, none]) hG hl kX12_stopsByGaps rfl (Nat.le_of_ble_eq_true rfl) rfl rfl rfl rfl rfl (fun X eG el hX => ?_)
  subst eG; subst el
  unfold f_X12_stopsByGaps at h
  refine x_aloadn hX dX12_stopsByGaps_0 rfl ?_
  refine x_getI hX dX12_stopsByGaps_1 fl_X12_190 rfl (st139 hs) ?_
  refine x_iconst hX dX12_stopsByGaps_4 ?_
  refine x_isub hX dX12_stopsByGaps_5 ?_
  obtain ⟨x1_1, ex1_1, h⟩ := bnd_of h
  refine x_istoren (ls' := [some (vr (xG X) 139), some (vi x1_1), none]) hX dX12_stopsByGaps_6 rfl ex1_1 rfl ?_
  refine x_aloadn hX dX12_stopsByGaps_7 rfl ?_
  refine x_aloadn hX dX12_stopsByGaps_8 rfl ?_
  refine x_getRj (j := 146) hX dX12_stopsByGaps_9 fl_X12_29 rfl (st139 hs) rfl ?_
  refine x_iconst hX dX12_stopsByGaps_12 ?_
  refine x_iald hX dX12_stopsByGaps_13 (st146 hs) inc_0_6 ixc_0 ?_
  refine x_iconst hX dX12_stopsByGaps_14 ?_
  obtain ⟨M_3, er_2, h⟩ := cl1_of h
  refine x_callVv (t := 11) (As := [vi (M 146 0), vi 1]) (rest := []) hX dX12_stopsByGaps_15 (c_X12_goes (gk hX) (gl hX) hs (M 146 0) 1 M _ er_2) kX12_goes vX12_goes w_2079 (st139 hs) rfl rfl rfl rfl (Nat.le_of_ble_eq_true rfl) z0 ?_
  refine x_iconst hX dX12_stopsByGaps_18 ?_
  refine x_istoren (ls' := [some (vr (xG X) 139), some (vi x1_1), some (vi 1)]) hX dX12_stopsByGaps_19 rfl rfl rfl ?_
  refine x_weak (ls' := [some (vr (xG X) 139), some (vi x1_1), some (vi 1)]) [true, true, true] rfl ?_
  refine lp_use (x := (1, M_3)) (P := fun x => V X 0 0 (Qn X none Mr) 20 [some (vr (xG X) 139), some (vi x1_1), some (vi x.1)] [] x.2) (PE := fun z_11 => V X 0 0 (Qn X none Mr) 63 [some (vr (xG X) 139), some (vi x1_1), none] [] z_11) (PR := fun q => (Qn X none Mr) = Qn X none q) h (fun x o hh hP hE hR => ts_X12_stopsByGaps_20 hX hs x1_1 x.1 x.2 o hh hP hE hR) (fun z_11 h => ?_) (fun q h => ?_)
  · show V X 0 0 (Qn X none Mr) 63 [some (vr (xG X) 139), some (vi x1_1), none] [] z_11
    refine x_aloadn hX dX12_stopsByGaps_63 rfl ?_
    refine x_aloadn hX dX12_stopsByGaps_64 rfl ?_
    refine x_getRj (j := 146) hX dX12_stopsByGaps_65 fl_X12_29 rfl (st139 hs) rfl ?_
    refine x_iloadn hX dX12_stopsByGaps_68 rfl ?_
    obtain ⟨b_12, h⟩ := gi_of h
    refine x_iald hX dX12_stopsByGaps_69 (st146 hs) b_12 rfl ?_
    refine x_iconst hX dX12_stopsByGaps_70 ?_
    obtain ⟨M_14, er_13, h⟩ := cl1_of h
    refine x_callVv (t := 11) (As := [vi (z_11 146 (ix x1_1)), vi 0]) (rest := []) hX dX12_stopsByGaps_71 (c_X12_goes (gk hX) (gl hX) hs (z_11 146 (ix x1_1)) 0 z_11 _ er_13) kX12_goes vX12_goes w_2079 (st139 hs) rfl rfl rfl rfl (Nat.le_of_ble_eq_true rfl) z0 ?_
    refine x_iloadn hX dX12_stopsByGaps_74 rfl ?_
    refine x_iconst hX dX12_stopsByGaps_75 ?_
    refine x_isub hX dX12_stopsByGaps_76 ?_
    obtain ⟨x2_15, ex2_15, h⟩ := bnd_of h
    refine x_istoren (ls' := [some (vr (xG X) 139), some (vi x1_1), some (vi x2_15)]) hX dX12_stopsByGaps_77 rfl ex2_15 rfl ?_
    refine x_weak (ls' := [some (vr (xG X) 139), none, some (vi x2_15)]) [true, false, true] rfl ?_
    refine lp_use (x := (x2_15, M_14)) (P := fun x => V X 0 0 (Qn X none Mr) 78 [some (vr (xG X) 139), none, some (vi x.1)] [] x.2) (PE := fun z_23 => V X 0 0 (Qn X none Mr) 113 [none, none, none] [] z_23) (PR := fun q => (Qn X none Mr) = Qn X none q) h (fun x o hh hP hE hR => ts_X12_stopsByGaps_78 hX hs x.1 x.2 o hh hP hE hR) (fun z_23 h => ?_) (fun q h => ?_)
    · show V X 0 0 (Qn X none Mr) 113 [none, none, none] [] z_23
      cases h
      exact x_vret hX dX12_stopsByGaps_113 rfl
    · cases h; rfl
  · cases h; rfl
theorem dX12_stopsCombined_0 : decode cX12_stopsCombined 0 = .ok (.aload_n 0, 1) := by decide +kernel
theorem dX12_stopsCombined_1 : decode cX12_stopsCombined 1 = .ok (.invokevirtual 229, 3) := by decide +kernel
theorem dX12_stopsCombined_4 : decode cX12_stopsCombined 4 = .ok (.istore_n 1, 1) := by decide +kernel
theorem dX12_stopsCombined_5 : decode cX12_stopsCombined 5 = .ok (.iconst 0, 1) := by decide +kernel
theorem dX12_stopsCombined_6 : decode cX12_stopsCombined 6 = .ok (.istore_n 2, 1) := by decide +kernel
theorem dX12_stopsCombined_7 : decode cX12_stopsCombined 7 = .ok (.iconst 0, 1) := by decide +kernel
theorem dX12_stopsCombined_8 : decode cX12_stopsCombined 8 = .ok (.istore_n 3, 1) := by decide +kernel
theorem dX12_stopsCombined_9 : decode cX12_stopsCombined 9 = .ok (.iload_n 3, 1) := by decide +kernel
theorem dX12_stopsCombined_10 : decode cX12_stopsCombined 10 = .ok (.aload_n 0, 1) := by decide +kernel
theorem dX12_stopsCombined_11 : decode cX12_stopsCombined 11 = .ok (.getfield 190, 3) := by decide +kernel
theorem dX12_stopsCombined_14 : decode cX12_stopsCombined 14 = .ok (.if_icmp .ge 50, 3) := by decide +kernel
theorem dX12_stopsCombined_17 : decode cX12_stopsCombined 17 = .ok (.aload_n 0, 1) := by decide +kernel
theorem dX12_stopsCombined_18 : decode cX12_stopsCombined 18 = .ok (.aload_n 0, 1) := by decide +kernel
theorem dX12_stopsCombined_19 : decode cX12_stopsCombined 19 = .ok (.getfield 29, 3) := by decide +kernel
theorem dX12_stopsCombined_22 : decode cX12_stopsCombined 22 = .ok (.iload_n 3, 1) := by decide +kernel
theorem dX12_stopsCombined_23 : decode cX12_stopsCombined 23 = .ok (.iaload, 1) := by decide +kernel
theorem dX12_stopsCombined_24 : decode cX12_stopsCombined 24 = .ok (.iload_n 2, 1) := by decide +kernel
theorem dX12_stopsCombined_25 : decode cX12_stopsCombined 25 = .ok (.ifCond .ne 7, 3) := by decide +kernel
theorem dX12_stopsCombined_28 : decode cX12_stopsCombined 28 = .ok (.iconst 1, 1) := by decide +kernel
theorem dX12_stopsCombined_29 : decode cX12_stopsCombined 29 = .ok (.goto 4, 3) := by decide +kernel
theorem dX12_stopsCombined_32 : decode cX12_stopsCombined 32 = .ok (.iconst 0, 1) := by decide +kernel
theorem dX12_stopsCombined_33 : decode cX12_stopsCombined 33 = .ok (.invokevirtual 275, 3) := by decide +kernel
theorem dX12_stopsCombined_36 : decode cX12_stopsCombined 36 = .ok (.iload_n 2, 1) := by decide +kernel
theorem dX12_stopsCombined_37 : decode cX12_stopsCombined 37 = .ok (.iload_n 1, 1) := by decide +kernel
theorem dX12_stopsCombined_38 : decode cX12_stopsCombined 38 = .ok (.aload_n 0, 1) := by decide +kernel
theorem dX12_stopsCombined_39 : decode cX12_stopsCombined 39 = .ok (.getfield 190, 3) := by decide +kernel
theorem dX12_stopsCombined_42 : decode cX12_stopsCombined 42 = .ok (.iconst 1, 1) := by decide +kernel
theorem dX12_stopsCombined_43 : decode cX12_stopsCombined 43 = .ok (.isub, 1) := by decide +kernel
theorem dX12_stopsCombined_44 : decode cX12_stopsCombined 44 = .ok (.iload_n 3, 1) := by decide +kernel
theorem dX12_stopsCombined_45 : decode cX12_stopsCombined 45 = .ok (.isub, 1) := by decide +kernel
theorem dX12_stopsCombined_46 : decode cX12_stopsCombined 46 = .ok (.invokestatic 136, 3) := by decide +kernel
theorem dX12_stopsCombined_49 : decode cX12_stopsCombined 49 = .ok (.if_icmp .eq 7, 3) := by decide +kernel
theorem dX12_stopsCombined_52 : decode cX12_stopsCombined 52 = .ok (.iconst 1, 1) := by decide +kernel
theorem dX12_stopsCombined_53 : decode cX12_stopsCombined 53 = .ok (.goto 4, 3) := by decide +kernel
theorem dX12_stopsCombined_56 : decode cX12_stopsCombined 56 = .ok (.iconst 0, 1) := by decide +kernel
theorem dX12_stopsCombined_57 : decode cX12_stopsCombined 57 = .ok (.istore_n 2, 1) := by decide +kernel
theorem dX12_stopsCombined_58 : decode cX12_stopsCombined 58 = .ok (.iinc 3 1, 3) := by decide +kernel
theorem dX12_stopsCombined_61 : decode cX12_stopsCombined 61 = .ok (.goto (-52), 3) := by decide +kernel
theorem dX12_stopsCombined_64 : decode cX12_stopsCombined 64 = .ok (.return_, 1) := by decide +kernel
noncomputable def j_X12_stopsCombined_57_9   (x1 : Int) (x3 : Int) (y0 : Int) (M : Mem) : Option ((Int × Int × Mem) ⊕ ((Mem) ⊕ (Mem))) :=
  bnd (x3 + 1) (fun x3_8 => some (.inl (y0, x3_8, M)))
set_option maxRecDepth 100000 in
set_option maxHeartbeats 4000000 in
theorem tj_X12_stopsCombined_57_9 {X : Cxt} (hX : Gd X RX12 cX12_stopsCombined 4 (none) 5) (hs : SOK (xG X))   (x1 : Int) (x3 : Int) (y0 : Int) (M : Mem) {Q : State → Prop} (o : (Int × Int × Mem) ⊕ ((Mem) ⊕ (Mem))) (h : j_X12_stopsCombined_57_9 x1 x3 y0 M = some o) (hP : ∀ y, o = .inl y → V X 0 0 Q 9 [some (vr (xG X) 139), some (vi x1), some (vi y.1), some (vi y.2.1)] [] y.2.2) (hE : ∀ z, o = .inr (.inl z) → V X 0 0 Q 64 [none, none, none, none] [] z) (hR : ∀ q, o = .inr (.inr q) → Q = Qn X none q) : V X 0 0 Q 57 [some (vr (xG X) 139), some (vi x1), none, some (vi x3)] [vi y0] M := by
  unfold j_X12_stopsCombined_57_9 at h
  refine x_istoren (ls' := [some (vr (xG X) 139), some (vi x1), some (vi y0), some (vi x3)]) hX dX12_stopsCombined_57 rfl rfl rfl ?_
  obtain ⟨x3_8, ex3_8, h⟩ := bnd_of h
  refine x_iinc (ls' := [some (vr (xG X) 139), some (vi x1), some (vi y0), some (vi x3_8)]) hX dX12_stopsCombined_58 rfl rfl ex3_8 rfl ?_
  refine x_goto (tgt := 9) hX dX12_stopsCombined_61 (by decide) ?_
  exact x_weak [true, true, true, true] rfl (hP (y0, x3_8, M) (Option.some.inj h).symm)
noncomputable def j_X12_stopsCombined_33_9   (x1 : Int) (x2 : Int) (x3 : Int) (y1 : Int) (y2 : Int) (M : Mem) : Option ((Int × Int × Mem) ⊕ ((Mem) ⊕ (Mem))) :=
  cl1 (f_X12_goes y1 y2 M) (fun M_5 => cl1 (f_X12_has x1 (((M_5 139 8) - 1) - x3) M_5) (fun r_6 => (if w32 x2 = w32 r_6 then j_X12_stopsCombined_57_9 x1 x3 0 M_5 else j_X12_stopsCombined_57_9 x1 x3 1 M_5)))
set_option maxRecDepth 100000 in
set_option maxHeartbeats 4000000 in
theorem tj_X12_stopsCombined_33_9 {X : Cxt} (hX : Gd X RX12 cX12_stopsCombined 4 (none) 5) (hs : SOK (xG X))   (x1 : Int) (x2 : Int) (x3 : Int) (y1 : Int) (y2 : Int) (M : Mem) {Q : State → Prop} (o : (Int × Int × Mem) ⊕ ((Mem) ⊕ (Mem))) (h : j_X12_stopsCombined_33_9 x1 x2 x3 y1 y2 M = some o) (hP : ∀ y, o = .inl y → V X 0 0 Q 9 [some (vr (xG X) 139), some (vi x1), some (vi y.1), some (vi y.2.1)] [] y.2.2) (hE : ∀ z, o = .inr (.inl z) → V X 0 0 Q 64 [none, none, none, none] [] z) (hR : ∀ q, o = .inr (.inr q) → Q = Qn X none q) : V X 0 0 Q 33 [some (vr (xG X) 139), some (vi x1), some (vi x2), some (vi x3)] [vi y2, vi y1, vr (xG X) 139] M := by
  unfold j_X12_stopsCombined_33_9 at h
  obtain ⟨M_5, er_4, h⟩ := cl1_of h
  refine x_callVv (t := 11) (As := [vi y1, vi y2]) (rest := []) hX dX12_stopsCombined_33 (c_X12_goes (gk hX) (gl hX) hs y1 y2 M _ er_4) kX12_goes vX12_goes w_2079 (st139 hs) rfl rfl rfl rfl (Nat.le_of_ble_eq_true rfl) z0 ?_
  refine x_iloadn hX dX12_stopsCombined_36 rfl ?_
  refine x_iloadn hX dX12_stopsCombined_37 rfl ?_
  refine x_aloadn hX dX12_stopsCombined_38 rfl ?_
  refine x_getI hX dX12_stopsCombined_39 fl_X12_190 rfl (st139 hs) ?_
  refine x_iconst hX dX12_stopsCombined_42 ?_
  refine x_isub hX dX12_stopsCombined_43 ?_
  refine x_iloadn hX dX12_stopsCombined_44 rfl ?_
  refine x_isub hX dX12_stopsCombined_45 ?_
  obtain ⟨r_6, er_6, h⟩ := cl1_of h
  refine x_callSi (As := [vi x1, vi (((M_5 139 8) - 1) - x3)]) (rest := [vi x2]) hX dX12_stopsCombined_46 (c_X12_has (gk hX) (gl hX) x1 (((M_5 139 8) - 1) - x3) M_5 _ er_6) kX12_has sX12_has w_1868 rfl rfl rfl (Nat.le_of_ble_eq_true rfl) z0 ?_
  refine x_icmp_eq (tgt := 56) hX dX12_stopsCombined_49 (by decide) rfl rfl (fun hc => ?_) (fun hc => ?_)
  · replace h := (if_pos hc).symm.trans h
    refine x_iconst hX dX12_stopsCombined_56 ?_
    exact x_weak [true, true, false, true] rfl (tj_X12_stopsCombined_57_9 hX hs x1 x3 0 M_5 o h hP hE hR)
  · replace h := (if_neg hc).symm.trans h
    refine x_iconst hX dX12_stopsCombined_52 ?_
    refine x_goto (tgt := 57) hX dX12_stopsCombined_53 (by decide) ?_
    exact x_weak [true, true, false, true] rfl (tj_X12_stopsCombined_57_9 hX hs x1 x3 1 M_5 o h hP hE hR)
noncomputable def s_X12_stopsCombined_9  (x1 : Int) (x2 : Int) (x3 : Int) (M : Mem) : Option ((Int × Int × Mem) ⊕ ((Mem) ⊕ (Mem))) :=
  (if w32 x3 < w32 (M 139 8) then gi x3 6 ((if w32 x2 = 0 then j_X12_stopsCombined_33_9 x1 x2 x3 (M 146 (ix x3)) 1 M else j_X12_stopsCombined_33_9 x1 x2 x3 (M 146 (ix x3)) 0 M)) else some (.inr (.inl M)))
set_option maxRecDepth 100000 in
set_option maxHeartbeats 4000000 in
theorem ts_X12_stopsCombined_9 {X : Cxt} (hX : Gd X RX12 cX12_stopsCombined 4 (none) 5) (hs : SOK (xG X))  (x1 : Int) (x2 : Int) (x3 : Int) (M : Mem) {Q : State → Prop} (o : (Int × Int × Mem) ⊕ ((Mem) ⊕ (Mem))) (h : s_X12_stopsCombined_9 x1 x2 x3 M = some o) (hP : ∀ y, o = .inl y → V X 0 0 Q 9 [some (vr (xG X) 139), some (vi x1), some (vi y.1), some (vi y.2.1)] [] y.2.2) (hE : ∀ z, o = .inr (.inl z) → V X 0 0 Q 64 [none, none, none, none] [] z) (hR : ∀ q, o = .inr (.inr q) → Q = Qn X none q) : V X 0 0 Q 9 [some (vr (xG X) 139), some (vi x1), some (vi x2), some (vi x3)] [] M := by
  unfold s_X12_stopsCombined_9 at h
  refine x_iloadn hX dX12_stopsCombined_9 rfl ?_
  refine x_aloadn hX dX12_stopsCombined_10 rfl ?_
  refine x_getI hX dX12_stopsCombined_11 fl_X12_190 rfl (st139 hs) ?_
  refine x_icmp_ge (tgt := 64) hX dX12_stopsCombined_14 (by decide) rfl rfl (fun hc => ?_) (fun hc => ?_)
  · replace h := (if_pos hc).symm.trans h
    refine x_aloadn hX dX12_stopsCombined_17 rfl ?_
    refine x_aloadn hX dX12_stopsCombined_18 rfl ?_
    refine x_getRj (j := 146) hX dX12_stopsCombined_19 fl_X12_29 rfl (st139 hs) rfl ?_
    refine x_iloadn hX dX12_stopsCombined_22 rfl ?_
    obtain ⟨b_3, h⟩ := gi_of h
    refine x_iald hX dX12_stopsCombined_23 (st146 hs) b_3 rfl ?_
    refine x_iloadn hX dX12_stopsCombined_24 rfl ?_
    refine x_if_ne (tgt := 32) hX dX12_stopsCombined_25 (by decide) rfl (fun hc => ?_) (fun hc => ?_)
    · replace h := (if_pos hc).symm.trans h
      refine x_iconst hX dX12_stopsCombined_28 ?_
      refine x_goto (tgt := 33) hX dX12_stopsCombined_29 (by decide) ?_
      exact x_weak [true, true, true, true] rfl (tj_X12_stopsCombined_33_9 hX hs x1 x2 x3 (M 146 (ix x3)) 1 M o h hP hE hR)
    · replace h := (if_neg hc).symm.trans h
      refine x_iconst hX dX12_stopsCombined_32 ?_
      exact x_weak [true, true, true, true] rfl (tj_X12_stopsCombined_33_9 hX hs x1 x2 x3 (M 146 (ix x3)) 0 M o h hP hE hR)
  · replace h := (if_neg hc).symm.trans h
    exact x_weak [false, false, false, false] rfl (hE M (Option.some.inj h).symm)
noncomputable def f_X12_stopsCombined  (M : Mem) : Option (Mem) :=
  cl1 (f_X12_bestChoice M) (fun r_1 => lpb (wh (fun x => s_X12_stopsCombined_9 r_1 x.1 x.2.1 x.2.2) (0, 0, M)) (fun z_9 => some z_9) (fun q => some q))
set_option maxRecDepth 100000 in
set_option maxHeartbeats 4000000 in
theorem c_X12_stopsCombined {l : Launch} {G : Gx} (hG : GOK G) (hl : l.stackTraces = false) (hs : SOK G)  (M : Mem) (Mr : Mem) (h : f_X12_stopsCombined M = some Mr) : Cn l G mX12_stopsCombined 5 [vr G 139] M none Mr := by
  refine Cn_of2 (ls := [some (vr G 139), none, none, none]) hG hl kX12_stopsCombined rfl (Nat.le_of_ble_eq_true rfl) rfl rfl rfl rfl rfl (fun X eG el hX => ?_)
  subst eG; subst el
  unfold f_X12_stopsCombined at h
  refine x_aloadn hX dX12_stopsCombined_0 rfl ?_
  obtain ⟨r_1, er_1, h⟩ := cl1_of h
  refine x_callVi (t := 11) (As := []) (rest := []) hX dX12_stopsCombined_1 (c_X12_bestChoice (gk hX) (gl hX) hs M _ er_1) kX12_bestChoice vX12_bestChoice w_2015 (st139 hs) rfl rfl rfl rfl (Nat.le_of_ble_eq_true rfl) z0 ?_
  refine x_istoren (ls' := [some (vr (xG X) 139), some (vi r_1), none, none]) hX dX12_stopsCombined_4 rfl rfl rfl ?_
  refine x_iconst hX dX12_stopsCombined_5 ?_
  refine x_istoren (ls' := [some (vr (xG X) 139), some (vi r_1), some (vi 0), none]) hX dX12_stopsCombined_6 rfl rfl rfl ?_
  refine x_iconst hX dX12_stopsCombined_7 ?_
  refine x_istoren (ls' := [some (vr (xG X) 139), some (vi r_1), some (vi 0), some (vi 0)]) hX dX12_stopsCombined_8 rfl rfl rfl ?_
  refine x_weak (ls' := [some (vr (xG X) 139), some (vi r_1), some (vi 0), some (vi 0)]) [true, true, true, true] rfl ?_
  refine lp_use (x := (0, 0, M)) (P := fun x => V X 0 0 (Qn X none Mr) 9 [some (vr (xG X) 139), some (vi r_1), some (vi x.1), some (vi x.2.1)] [] x.2.2) (PE := fun z_9 => V X 0 0 (Qn X none Mr) 64 [none, none, none, none] [] z_9) (PR := fun q => (Qn X none Mr) = Qn X none q) h (fun x o hh hP hE hR => ts_X12_stopsCombined_9 hX hs r_1 x.1 x.2.1 x.2.2 o hh hP hE hR) (fun z_9 h => ?_) (fun q h => ?_)
  · show V X 0 0 (Qn X none Mr) 64 [none, none, none, none] [] z_9
    cases h
    exact x_vret hX dX12_stopsCombined_64 rfl
  · cases h; rfl
theorem dX12_readHall_0 : decode cX12_readHall 0 = .ok (.aload_n 0, 1) := by decide +kernel
theorem dX12_readHall_1 : decode cX12_readHall 1 = .ok (.invokevirtual 390, 3) := by decide +kernel
theorem dX12_readHall_4 : decode cX12_readHall 4 = .ok (.ifCond .eq 9, 3) := by decide +kernel
theorem dX12_readHall_7 : decode cX12_readHall 7 = .ok (.aload_n 0, 1) := by decide +kernel
theorem dX12_readHall_8 : decode cX12_readHall 8 = .ok (.iconst 1, 1) := by decide +kernel
theorem dX12_readHall_9 : decode cX12_readHall 9 = .ok (.invokevirtual 381, 3) := by decide +kernel
theorem dX12_readHall_12 : decode cX12_readHall 12 = .ok (.return_, 1) := by decide +kernel
theorem dX12_readHall_13 : decode cX12_readHall 13 = .ok (.aload_n 0, 1) := by decide +kernel
theorem dX12_readHall_14 : decode cX12_readHall 14 = .ok (.invokevirtual 387, 3) := by decide +kernel
theorem dX12_readHall_17 : decode cX12_readHall 17 = .ok (.aload_n 0, 1) := by decide +kernel
theorem dX12_readHall_18 : decode cX12_readHall 18 = .ok (.iconst 1, 1) := by decide +kernel
theorem dX12_readHall_19 : decode cX12_readHall 19 = .ok (.bipush 6, 2) := by decide +kernel
theorem dX12_readHall_21 : decode cX12_readHall 21 = .ok (.invokevirtual 393, 3) := by decide +kernel
theorem dX12_readHall_24 : decode cX12_readHall 24 = .ok (.istore_n 1, 1) := by decide +kernel
theorem dX12_readHall_25 : decode cX12_readHall 25 = .ok (.aload_n 0, 1) := by decide +kernel
theorem dX12_readHall_26 : decode cX12_readHall 26 = .ok (.iconst 2, 1) := by decide +kernel
theorem dX12_readHall_27 : decode cX12_readHall 27 = .ok (.bipush 20, 2) := by decide +kernel
theorem dX12_readHall_29 : decode cX12_readHall 29 = .ok (.invokevirtual 393, 3) := by decide +kernel
theorem dX12_readHall_32 : decode cX12_readHall 32 = .ok (.istore_n 2, 1) := by decide +kernel
theorem dX12_readHall_33 : decode cX12_readHall 33 = .ok (.aload_n 0, 1) := by decide +kernel
theorem dX12_readHall_34 : decode cX12_readHall 34 = .ok (.iconst 1, 1) := by decide +kernel
theorem dX12_readHall_35 : decode cX12_readHall 35 = .ok (.bipush 9, 2) := by decide +kernel
theorem dX12_readHall_37 : decode cX12_readHall 37 = .ok (.invokevirtual 393, 3) := by decide +kernel
theorem dX12_readHall_40 : decode cX12_readHall 40 = .ok (.istore_n 3, 1) := by decide +kernel
theorem dX12_readHall_41 : decode cX12_readHall 41 = .ok (.aload_n 0, 1) := by decide +kernel
theorem dX12_readHall_42 : decode cX12_readHall 42 = .ok (.invokevirtual 384, 3) := by decide +kernel
theorem dX12_readHall_45 : decode cX12_readHall 45 = .ok (.ifCond .eq 10, 3) := by decide +kernel
theorem dX12_readHall_48 : decode cX12_readHall 48 = .ok (.aload_n 0, 1) := by decide +kernel
theorem dX12_readHall_49 : decode cX12_readHall 49 = .ok (.iload_n 1, 1) := by decide +kernel
theorem dX12_readHall_50 : decode cX12_readHall 50 = .ok (.iload_n 2, 1) := by decide +kernel
theorem dX12_readHall_51 : decode cX12_readHall 51 = .ok (.iload_n 3, 1) := by decide +kernel
theorem dX12_readHall_52 : decode cX12_readHall 52 = .ok (.invokevirtual 81, 3) := by decide +kernel
theorem dX12_readHall_55 : decode cX12_readHall 55 = .ok (.aload_n 0, 1) := by decide +kernel
theorem dX12_readHall_56 : decode cX12_readHall 56 = .ok (.invokevirtual 396, 3) := by decide +kernel
theorem dX12_readHall_59 : decode cX12_readHall 59 = .ok (.return_, 1) := by decide +kernel
noncomputable def j_X12_readHall_55   (M : Mem) : Option (Mem) :=
  cl1 (f_X12_ends M) (fun M_14 => some M_14)
set_option maxRecDepth 100000 in
set_option maxHeartbeats 4000000 in
theorem tj_X12_readHall_55 {X : Cxt} (hX : Gd X RX12 cX12_readHall 4 (none) 5) (hs : SOK (xG X))   (M : Mem) (Mr : Mem) (h : j_X12_readHall_55 M = some Mr) : V X 0 0 (Qn X none Mr) 55 [some (vr (xG X) 139), none, none, none] [] M := by
  unfold j_X12_readHall_55 at h
  refine x_aloadn hX dX12_readHall_55 rfl ?_
  obtain ⟨M_14, er_13, h⟩ := cl1_of h
  refine x_callVv (t := 11) (As := []) (rest := []) hX dX12_readHall_56 (c_X12_ends (gk hX) (gl hX) hs M _ er_13) kX12_ends vX12_ends w_2309 (st139 hs) rfl rfl rfl rfl (Nat.le_of_ble_eq_true rfl) z0 ?_
  cases h
  exact x_vret hX dX12_readHall_59 rfl
noncomputable def f_X12_readHall  (M : Mem) : Option (Mem) :=
  cl1 (f_X12_wordHere M) (fun r_1 => (if w32 r_1 = 0 then cl1 (f_X12_next M) (fun M_4 => cl2 (f_X12_read 1 6 M_4) (fun r_5 M_6 => cl2 (f_X12_read 2 20 M_6) (fun r_7 M_8 => cl2 (f_X12_read 1 9 M_8) (fun r_9 M_10 => cl1 (f_X12_isWell M_10) (fun r_11 => (if w32 r_11 = 0 then j_X12_readHall_55 M_10 else cl1 (f_X12_laysHall r_5 r_7 r_9 M_10) (fun M_16 => j_X12_readHall_55 M_16))))))) else cl1 (f_X12_fails 1 M) (fun M_18 => some M_18)))
set_option maxRecDepth 100000 in
set_option maxHeartbeats 4000000 in
theorem c_X12_readHall {l : Launch} {G : Gx} (hG : GOK G) (hl : l.stackTraces = false) (hs : SOK G)  (M : Mem) (Mr : Mem) (h : f_X12_readHall M = some Mr) : Cn l G mX12_readHall 5 [vr G 139] M none Mr := by
  refine Cn_of2 (ls := [some (vr G 139), none, none, none]) hG hl kX12_readHall rfl (Nat.le_of_ble_eq_true rfl) rfl rfl rfl rfl rfl (fun X eG el hX => ?_)
  subst eG; subst el
  unfold f_X12_readHall at h
  refine x_aloadn hX dX12_readHall_0 rfl ?_
  obtain ⟨r_1, er_1, h⟩ := cl1_of h
  refine x_callVi (t := 11) (As := []) (rest := []) hX dX12_readHall_1 (c_X12_wordHere (gk hX) (gl hX) hs M _ er_1) kX12_wordHere vX12_wordHere w_2293 (st139 hs) rfl rfl rfl rfl (Nat.le_of_ble_eq_true rfl) z0 ?_
  refine x_if_eq (tgt := 13) hX dX12_readHall_4 (by decide) rfl (fun hc => ?_) (fun hc => ?_)
  · replace h := (if_pos hc).symm.trans h
    refine x_aloadn hX dX12_readHall_13 rfl ?_
    obtain ⟨M_4, er_3, h⟩ := cl1_of h
    refine x_callVv (t := 11) (As := []) (rest := []) hX dX12_readHall_14 (c_X12_next (gk hX) (gl hX) hs M _ er_3) kX12_next vX12_next w_2272 (st139 hs) rfl rfl rfl rfl (Nat.le_of_ble_eq_true rfl) z0 ?_
    refine x_aloadn hX dX12_readHall_17 rfl ?_
    refine x_iconst hX dX12_readHall_18 ?_
    refine x_bipush hX dX12_readHall_19 bp_6 ?_
    obtain ⟨r_5, M_6, er_5, h⟩ := cl2_of h
    refine x_callVi (t := 11) (As := [vi 1, vi 6]) (rest := []) hX dX12_readHall_21 (c_X12_read (gk hX) (gl hX) hs 1 6 M_4 _ _ er_5) kX12_read vX12_read w_2301 (st139 hs) rfl rfl rfl rfl (Nat.le_of_ble_eq_true rfl) z0 ?_
    refine x_istoren (ls' := [some (vr (xG X) 139), some (vi r_5), none, none]) hX dX12_readHall_24 rfl rfl rfl ?_
    refine x_aloadn hX dX12_readHall_25 rfl ?_
    refine x_iconst hX dX12_readHall_26 ?_
    refine x_bipush hX dX12_readHall_27 bp_20 ?_
    obtain ⟨r_7, M_8, er_7, h⟩ := cl2_of h
    refine x_callVi (t := 11) (As := [vi 2, vi 20]) (rest := []) hX dX12_readHall_29 (c_X12_read (gk hX) (gl hX) hs 2 20 M_6 _ _ er_7) kX12_read vX12_read w_2301 (st139 hs) rfl rfl rfl rfl (Nat.le_of_ble_eq_true rfl) z0 ?_
    refine x_istoren (ls' := [some (vr (xG X) 139), some (vi r_5), some (vi r_7), none]) hX dX12_readHall_32 rfl rfl rfl ?_
    refine x_aloadn hX dX12_readHall_33 rfl ?_
    refine x_iconst hX dX12_readHall_34 ?_
    refine x_bipush hX dX12_readHall_35 bp_9 ?_
    obtain ⟨r_9, M_10, er_9, h⟩ := cl2_of h
    refine x_callVi (t := 11) (As := [vi 1, vi 9]) (rest := []) hX dX12_readHall_37 (c_X12_read (gk hX) (gl hX) hs 1 9 M_8 _ _ er_9) kX12_read vX12_read w_2301 (st139 hs) rfl rfl rfl rfl (Nat.le_of_ble_eq_true rfl) z0 ?_
    refine x_istoren (ls' := [some (vr (xG X) 139), some (vi r_5), some (vi r_7), some (vi r_9)]) hX dX12_readHall_40 rfl rfl rfl ?_
    refine x_aloadn hX dX12_readHall_41 rfl ?_
    obtain ⟨r_11, er_11, h⟩ := cl1_of h
    refine x_callVi (t := 11) (As := []) (rest := []) hX dX12_readHall_42 (c_X12_isWell (gk hX) (gl hX) hs M_10 _ er_11) kX12_isWell vX12_isWell w_2305 (st139 hs) rfl rfl rfl rfl (Nat.le_of_ble_eq_true rfl) z0 ?_
    refine x_if_eq (tgt := 55) hX dX12_readHall_45 (by decide) rfl (fun hc => ?_) (fun hc => ?_)
    · replace h := (if_pos hc).symm.trans h
      exact x_weak [true, false, false, false] rfl (tj_X12_readHall_55 hX hs M_10 Mr h)
    · replace h := (if_neg hc).symm.trans h
      refine x_aloadn hX dX12_readHall_48 rfl ?_
      refine x_iloadn hX dX12_readHall_49 rfl ?_
      refine x_iloadn hX dX12_readHall_50 rfl ?_
      refine x_iloadn hX dX12_readHall_51 rfl ?_
      obtain ⟨M_16, er_15, h⟩ := cl1_of h
      refine x_callVv (t := 11) (As := [vi r_5, vi r_7, vi r_9]) (rest := []) hX dX12_readHall_52 (c_X12_laysHall (gk hX) (gl hX) hs r_5 r_7 r_9 M_10 _ er_15) kX12_laysHall vX12_laysHall w_1738 (st139 hs) rfl rfl rfl rfl (Nat.le_of_ble_eq_true rfl) z0 ?_
      exact x_weak [true, false, false, false] rfl (tj_X12_readHall_55 hX hs M_16 Mr h)
  · replace h := (if_neg hc).symm.trans h
    refine x_aloadn hX dX12_readHall_7 rfl ?_
    refine x_iconst hX dX12_readHall_8 ?_
    obtain ⟨M_18, er_17, h⟩ := cl1_of h
    refine x_callVv (t := 11) (As := [vi 1]) (rest := []) hX dX12_readHall_9 (c_X12_fails (gk hX) (gl hX) hs 1 M _ er_17) kX12_fails vX12_fails w_2297 (st139 hs) rfl rfl rfl rfl (Nat.le_of_ble_eq_true rfl) z0 ?_
    cases h
    exact x_vret hX dX12_readHall_12 rfl
theorem dX12_readItem_0 : decode cX12_readItem 0 = .ok (.aload_n 0, 1) := by decide +kernel
theorem dX12_readItem_1 : decode cX12_readItem 1 = .ok (.getfield 7, 3) := by decide +kernel
theorem dX12_readItem_4 : decode cX12_readItem 4 = .ok (.iconst 3, 1) := by decide +kernel
theorem dX12_readItem_5 : decode cX12_readItem 5 = .ok (.iaload, 1) := by decide +kernel
theorem dX12_readItem_6 : decode cX12_readItem 6 = .ok (.bipush 24, 2) := by decide +kernel
theorem dX12_readItem_8 : decode cX12_readItem 8 = .ok (.if_icmp .ne 9, 3) := by decide +kernel
theorem dX12_readItem_11 : decode cX12_readItem 11 = .ok (.aload_n 0, 1) := by decide +kernel
theorem dX12_readItem_12 : decode cX12_readItem 12 = .ok (.iconst 3, 1) := by decide +kernel
theorem dX12_readItem_13 : decode cX12_readItem 13 = .ok (.invokevirtual 381, 3) := by decide +kernel
theorem dX12_readItem_16 : decode cX12_readItem 16 = .ok (.return_, 1) := by decide +kernel
theorem dX12_readItem_17 : decode cX12_readItem 17 = .ok (.aload_n 0, 1) := by decide +kernel
theorem dX12_readItem_18 : decode cX12_readItem 18 = .ok (.invokevirtual 387, 3) := by decide +kernel
theorem dX12_readItem_21 : decode cX12_readItem 21 = .ok (.aload_n 0, 1) := by decide +kernel
theorem dX12_readItem_22 : decode cX12_readItem 22 = .ok (.iconst 0, 1) := by decide +kernel
theorem dX12_readItem_23 : decode cX12_readItem 23 = .ok (.aload_n 0, 1) := by decide +kernel
theorem dX12_readItem_24 : decode cX12_readItem 24 = .ok (.getfield 7, 3) := by decide +kernel
theorem dX12_readItem_27 : decode cX12_readItem 27 = .ok (.iconst 0, 1) := by decide +kernel
theorem dX12_readItem_28 : decode cX12_readItem 28 = .ok (.iaload, 1) := by decide +kernel
theorem dX12_readItem_29 : decode cX12_readItem 29 = .ok (.iconst 1, 1) := by decide +kernel
theorem dX12_readItem_30 : decode cX12_readItem 30 = .ok (.isub, 1) := by decide +kernel
theorem dX12_readItem_31 : decode cX12_readItem 31 = .ok (.invokevirtual 393, 3) := by decide +kernel
theorem dX12_readItem_34 : decode cX12_readItem 34 = .ok (.istore_n 1, 1) := by decide +kernel
theorem dX12_readItem_35 : decode cX12_readItem 35 = .ok (.aload_n 0, 1) := by decide +kernel
theorem dX12_readItem_36 : decode cX12_readItem 36 = .ok (.iconst 1, 1) := by decide +kernel
theorem dX12_readItem_37 : decode cX12_readItem 37 = .ok (.aload_n 0, 1) := by decide +kernel
theorem dX12_readItem_38 : decode cX12_readItem 38 = .ok (.getfield 7, 3) := by decide +kernel
theorem dX12_readItem_41 : decode cX12_readItem 41 = .ok (.iconst 1, 1) := by decide +kernel
theorem dX12_readItem_42 : decode cX12_readItem 42 = .ok (.iaload, 1) := by decide +kernel
theorem dX12_readItem_43 : decode cX12_readItem 43 = .ok (.invokevirtual 393, 3) := by decide +kernel
theorem dX12_readItem_46 : decode cX12_readItem 46 = .ok (.istore_n 2, 1) := by decide +kernel
theorem dX12_readItem_47 : decode cX12_readItem 47 = .ok (.aload_n 0, 1) := by decide +kernel
theorem dX12_readItem_48 : decode cX12_readItem 48 = .ok (.iconst 1, 1) := by decide +kernel
theorem dX12_readItem_49 : decode cX12_readItem 49 = .ok (.bipush 50, 2) := by decide +kernel
theorem dX12_readItem_51 : decode cX12_readItem 51 = .ok (.invokevirtual 393, 3) := by decide +kernel
theorem dX12_readItem_54 : decode cX12_readItem 54 = .ok (.istore_n 3, 1) := by decide +kernel
theorem dX12_readItem_55 : decode cX12_readItem 55 = .ok (.aload_n 0, 1) := by decide +kernel
theorem dX12_readItem_56 : decode cX12_readItem 56 = .ok (.iconst 0, 1) := by decide +kernel
theorem dX12_readItem_57 : decode cX12_readItem 57 = .ok (.sipush 999, 3) := by decide +kernel
theorem dX12_readItem_60 : decode cX12_readItem 60 = .ok (.invokevirtual 393, 3) := by decide +kernel
theorem dX12_readItem_63 : decode cX12_readItem 63 = .ok (.istore 4, 2) := by decide +kernel
theorem dX12_readItem_65 : decode cX12_readItem 65 = .ok (.aload_n 0, 1) := by decide +kernel
theorem dX12_readItem_66 : decode cX12_readItem 66 = .ok (.invokevirtual 384, 3) := by decide +kernel
theorem dX12_readItem_69 : decode cX12_readItem 69 = .ok (.ifCond .eq 14, 3) := by decide +kernel
theorem dX12_readItem_72 : decode cX12_readItem 72 = .ok (.aload_n 0, 1) := by decide +kernel
theorem dX12_readItem_73 : decode cX12_readItem 73 = .ok (.iload_n 1, 1) := by decide +kernel
theorem dX12_readItem_74 : decode cX12_readItem 74 = .ok (.iload_n 2, 1) := by decide +kernel
theorem dX12_readItem_75 : decode cX12_readItem 75 = .ok (.iload_n 3, 1) := by decide +kernel
theorem dX12_readItem_76 : decode cX12_readItem 76 = .ok (.iload 4, 2) := by decide +kernel
theorem dX12_readItem_78 : decode cX12_readItem 78 = .ok (.invokevirtual 89, 3) := by decide +kernel
theorem dX12_readItem_81 : decode cX12_readItem 81 = .ok (.istore 5, 2) := by decide +kernel
theorem dX12_readItem_83 : decode cX12_readItem 83 = .ok (.return_, 1) := by decide +kernel
noncomputable def f_X12_readItem  (M : Mem) : Option (Mem) :=
  (if w32 (M 140 3) = 24 then cl1 (f_X12_fails 3 M) (fun M_2 => some M_2) else cl1 (f_X12_next M) (fun M_4 => cl2 (f_X12_read 0 ((M_4 140 0) - 1) M_4) (fun r_5 M_6 => cl2 (f_X12_read 1 (M_6 140 1) M_6) (fun r_7 M_8 => cl2 (f_X12_read 1 50 M_8) (fun r_9 M_10 => cl2 (f_X12_read 0 999 M_10) (fun r_11 M_12 => cl1 (f_X12_isWell M_12) (fun r_13 => (if w32 r_13 = 0 then some M_12 else cl2 (f_X12_adds r_5 r_7 r_9 r_11 M_12) (fun r_15 M_16 => some M_16)))))))))
set_option maxRecDepth 100000 in
set_option maxHeartbeats 4000000 in
theorem c_X12_readItem {l : Launch} {G : Gx} (hG : GOK G) (hl : l.stackTraces = false) (hs : SOK G)  (M : Mem) (Mr : Mem) (h : f_X12_readItem M = some Mr) : Cn l G mX12_readItem 5 [vr G 139] M none Mr := by
  refine Cn_of2 (ls := [some (vr G 139), none, none, none, none, none]) hG hl kX12_readItem rfl (Nat.le_of_ble_eq_true rfl) rfl rfl rfl rfl rfl (fun X eG el hX => ?_)
  subst eG; subst el
  unfold f_X12_readItem at h
  refine x_aloadn hX dX12_readItem_0 rfl ?_
  refine x_getRj (j := 140) hX dX12_readItem_1 fl_X12_7 rfl (st139 hs) rfl ?_
  refine x_iconst hX dX12_readItem_4 ?_
  refine x_iald hX dX12_readItem_5 (st140 hs) inc_3_469 ixc_3 ?_
  refine x_bipush hX dX12_readItem_6 bp_24 ?_
  refine x_icmp_ne (tgt := 17) hX dX12_readItem_8 (by decide) rfl cw_24 (fun hc => ?_) (fun hc => ?_)
  · replace h := (if_pos hc).symm.trans h
    refine x_aloadn hX dX12_readItem_11 rfl ?_
    refine x_iconst hX dX12_readItem_12 ?_
    obtain ⟨M_2, er_1, h⟩ := cl1_of h
    refine x_callVv (t := 11) (As := [vi 3]) (rest := []) hX dX12_readItem_13 (c_X12_fails (gk hX) (gl hX) hs 3 M _ er_1) kX12_fails vX12_fails w_2297 (st139 hs) rfl rfl rfl rfl (Nat.le_of_ble_eq_true rfl) z0 ?_
    cases h
    exact x_vret hX dX12_readItem_16 rfl
  · replace h := (if_neg hc).symm.trans h
    refine x_aloadn hX dX12_readItem_17 rfl ?_
    obtain ⟨M_4, er_3, h⟩ := cl1_of h
    refine x_callVv (t := 11) (As := []) (rest := []) hX dX12_readItem_18 (c_X12_next (gk hX) (gl hX) hs M _ er_3) kX12_next vX12_next w_2272 (st139 hs) rfl rfl rfl rfl (Nat.le_of_ble_eq_true rfl) z0 ?_
    refine x_aloadn hX dX12_readItem_21 rfl ?_
    refine x_iconst hX dX12_readItem_22 ?_
    refine x_aloadn hX dX12_readItem_23 rfl ?_
    refine x_getRj (j := 140) hX dX12_readItem_24 fl_X12_7 rfl (st139 hs) rfl ?_
    refine x_iconst hX dX12_readItem_27 ?_
    refine x_iald hX dX12_readItem_28 (st140 hs) inc_0_469 ixc_0 ?_
    refine x_iconst hX dX12_readItem_29 ?_
    refine x_isub hX dX12_readItem_30 ?_
    obtain ⟨r_5, M_6, er_5, h⟩ := cl2_of h
    refine x_callVi (t := 11) (As := [vi 0, vi ((M_4 140 0) - 1)]) (rest := []) hX dX12_readItem_31 (c_X12_read (gk hX) (gl hX) hs 0 ((M_4 140 0) - 1) M_4 _ _ er_5) kX12_read vX12_read w_2301 (st139 hs) rfl rfl rfl rfl (Nat.le_of_ble_eq_true rfl) z0 ?_
    refine x_istoren (ls' := [some (vr (xG X) 139), some (vi r_5), none, none, none, none]) hX dX12_readItem_34 rfl rfl rfl ?_
    refine x_aloadn hX dX12_readItem_35 rfl ?_
    refine x_iconst hX dX12_readItem_36 ?_
    refine x_aloadn hX dX12_readItem_37 rfl ?_
    refine x_getRj (j := 140) hX dX12_readItem_38 fl_X12_7 rfl (st139 hs) rfl ?_
    refine x_iconst hX dX12_readItem_41 ?_
    refine x_iald hX dX12_readItem_42 (st140 hs) inc_1_469 ixc_1 ?_
    obtain ⟨r_7, M_8, er_7, h⟩ := cl2_of h
    refine x_callVi (t := 11) (As := [vi 1, vi (M_6 140 1)]) (rest := []) hX dX12_readItem_43 (c_X12_read (gk hX) (gl hX) hs 1 (M_6 140 1) M_6 _ _ er_7) kX12_read vX12_read w_2301 (st139 hs) rfl rfl rfl rfl (Nat.le_of_ble_eq_true rfl) z0 ?_
    refine x_istoren (ls' := [some (vr (xG X) 139), some (vi r_5), some (vi r_7), none, none, none]) hX dX12_readItem_46 rfl rfl rfl ?_
    refine x_aloadn hX dX12_readItem_47 rfl ?_
    refine x_iconst hX dX12_readItem_48 ?_
    refine x_bipush hX dX12_readItem_49 bp_50 ?_
    obtain ⟨r_9, M_10, er_9, h⟩ := cl2_of h
    refine x_callVi (t := 11) (As := [vi 1, vi 50]) (rest := []) hX dX12_readItem_51 (c_X12_read (gk hX) (gl hX) hs 1 50 M_8 _ _ er_9) kX12_read vX12_read w_2301 (st139 hs) rfl rfl rfl rfl (Nat.le_of_ble_eq_true rfl) z0 ?_
    refine x_istoren (ls' := [some (vr (xG X) 139), some (vi r_5), some (vi r_7), some (vi r_9), none, none]) hX dX12_readItem_54 rfl rfl rfl ?_
    refine x_aloadn hX dX12_readItem_55 rfl ?_
    refine x_iconst hX dX12_readItem_56 ?_
    refine x_sipush hX dX12_readItem_57 sp_999 ?_
    obtain ⟨r_11, M_12, er_11, h⟩ := cl2_of h
    refine x_callVi (t := 11) (As := [vi 0, vi 999]) (rest := []) hX dX12_readItem_60 (c_X12_read (gk hX) (gl hX) hs 0 999 M_10 _ _ er_11) kX12_read vX12_read w_2301 (st139 hs) rfl rfl rfl rfl (Nat.le_of_ble_eq_true rfl) z0 ?_
    refine x_istore (ls' := [some (vr (xG X) 139), some (vi r_5), some (vi r_7), some (vi r_9), some (vi r_11), none]) hX dX12_readItem_63 rfl rfl rfl ?_
    refine x_aloadn hX dX12_readItem_65 rfl ?_
    obtain ⟨r_13, er_13, h⟩ := cl1_of h
    refine x_callVi (t := 11) (As := []) (rest := []) hX dX12_readItem_66 (c_X12_isWell (gk hX) (gl hX) hs M_12 _ er_13) kX12_isWell vX12_isWell w_2305 (st139 hs) rfl rfl rfl rfl (Nat.le_of_ble_eq_true rfl) z0 ?_
    refine x_if_eq (tgt := 83) hX dX12_readItem_69 (by decide) rfl (fun hc => ?_) (fun hc => ?_)
    · replace h := (if_pos hc).symm.trans h
      cases h
      exact x_vret hX dX12_readItem_83 rfl
    · replace h := (if_neg hc).symm.trans h
      refine x_aloadn hX dX12_readItem_72 rfl ?_
      refine x_iloadn hX dX12_readItem_73 rfl ?_
      refine x_iloadn hX dX12_readItem_74 rfl ?_
      refine x_iloadn hX dX12_readItem_75 rfl ?_
      refine x_iload hX dX12_readItem_76 rfl ?_
      obtain ⟨r_15, M_16, er_15, h⟩ := cl2_of h
      refine x_callVi (t := 11) (As := [vi r_5, vi r_7, vi r_9, vi r_11]) (rest := []) hX dX12_readItem_78 (c_X12_adds (gk hX) (gl hX) hs r_5 r_7 r_9 r_11 M_12 _ _ er_15) kX12_adds vX12_adds w_1754 (st139 hs) rfl rfl rfl rfl (Nat.le_of_ble_eq_true rfl) z0 ?_
      refine x_istore (ls' := [some (vr (xG X) 139), some (vi r_5), some (vi r_7), some (vi r_9), some (vi r_11), some (vi r_15)]) hX dX12_readItem_81 rfl rfl rfl ?_
      cases h
      exact x_vret hX dX12_readItem_83 rfl
theorem dX12_readLine_0 : decode cX12_readLine 0 = .ok (.aload_n 0, 1) := by decide +kernel
theorem dX12_readLine_1 : decode cX12_readLine 1 = .ok (.iload_n 1, 1) := by decide +kernel
theorem dX12_readLine_2 : decode cX12_readLine 2 = .ok (.iconst 2, 1) := by decide +kernel
theorem dX12_readLine_3 : decode cX12_readLine 3 = .ok (.invokevirtual 107, 3) := by decide +kernel
theorem dX12_readLine_6 : decode cX12_readLine 6 = .ok (.bipush 6, 2) := by decide +kernel
theorem dX12_readLine_8 : decode cX12_readLine 8 = .ok (.if_icmp .ne 9, 3) := by decide +kernel
theorem dX12_readLine_11 : decode cX12_readLine 11 = .ok (.aload_n 0, 1) := by decide +kernel
theorem dX12_readLine_12 : decode cX12_readLine 12 = .ok (.iconst 3, 1) := by decide +kernel
theorem dX12_readLine_13 : decode cX12_readLine 13 = .ok (.invokevirtual 381, 3) := by decide +kernel
theorem dX12_readLine_16 : decode cX12_readLine 16 = .ok (.return_, 1) := by decide +kernel
theorem dX12_readLine_17 : decode cX12_readLine 17 = .ok (.aload_n 0, 1) := by decide +kernel
theorem dX12_readLine_18 : decode cX12_readLine 18 = .ok (.invokevirtual 387, 3) := by decide +kernel
theorem dX12_readLine_21 : decode cX12_readLine 21 = .ok (.aload_n 0, 1) := by decide +kernel
theorem dX12_readLine_22 : decode cX12_readLine 22 = .ok (.getfield 371, 3) := by decide +kernel
theorem dX12_readLine_25 : decode cX12_readLine 25 = .ok (.iconst 2, 1) := by decide +kernel
theorem dX12_readLine_26 : decode cX12_readLine 26 = .ok (.if_icmp .ne 20, 3) := by decide +kernel
theorem dX12_readLine_29 : decode cX12_readLine 29 = .ok (.aload_n 0, 1) := by decide +kernel
theorem dX12_readLine_30 : decode cX12_readLine 30 = .ok (.iload_n 1, 1) := by decide +kernel
theorem dX12_readLine_31 : decode cX12_readLine 31 = .ok (.aload_n 0, 1) := by decide +kernel
theorem dX12_readLine_32 : decode cX12_readLine 32 = .ok (.getfield 374, 3) := by decide +kernel
theorem dX12_readLine_35 : decode cX12_readLine 35 = .ok (.invokevirtual 116, 3) := by decide +kernel
theorem dX12_readLine_38 : decode cX12_readLine 38 = .ok (.ifCond .eq 8, 3) := by decide +kernel
theorem dX12_readLine_41 : decode cX12_readLine 41 = .ok (.aload_n 0, 1) := by decide +kernel
theorem dX12_readLine_42 : decode cX12_readLine 42 = .ok (.iconst 2, 1) := by decide +kernel
theorem dX12_readLine_43 : decode cX12_readLine 43 = .ok (.invokevirtual 381, 3) := by decide +kernel
theorem dX12_readLine_46 : decode cX12_readLine 46 = .ok (.aload_n 0, 1) := by decide +kernel
theorem dX12_readLine_47 : decode cX12_readLine 47 = .ok (.iconst 0, 1) := by decide +kernel
theorem dX12_readLine_48 : decode cX12_readLine 48 = .ok (.aload_n 0, 1) := by decide +kernel
theorem dX12_readLine_49 : decode cX12_readLine 49 = .ok (.getfield 7, 3) := by decide +kernel
theorem dX12_readLine_52 : decode cX12_readLine 52 = .ok (.iconst 3, 1) := by decide +kernel
theorem dX12_readLine_53 : decode cX12_readLine 53 = .ok (.iaload, 1) := by decide +kernel
theorem dX12_readLine_54 : decode cX12_readLine 54 = .ok (.iconst 1, 1) := by decide +kernel
theorem dX12_readLine_55 : decode cX12_readLine 55 = .ok (.isub, 1) := by decide +kernel
theorem dX12_readLine_56 : decode cX12_readLine 56 = .ok (.invokevirtual 393, 3) := by decide +kernel
theorem dX12_readLine_59 : decode cX12_readLine 59 = .ok (.istore_n 2, 1) := by decide +kernel
theorem dX12_readLine_60 : decode cX12_readLine 60 = .ok (.aload_n 0, 1) := by decide +kernel
theorem dX12_readLine_61 : decode cX12_readLine 61 = .ok (.iconst 1, 1) := by decide +kernel
theorem dX12_readLine_62 : decode cX12_readLine 62 = .ok (.bipush 99, 2) := by decide +kernel
theorem dX12_readLine_64 : decode cX12_readLine 64 = .ok (.invokevirtual 393, 3) := by decide +kernel
theorem dX12_readLine_67 : decode cX12_readLine 67 = .ok (.istore_n 3, 1) := by decide +kernel
theorem dX12_readLine_68 : decode cX12_readLine 68 = .ok (.aload_n 0, 1) := by decide +kernel
theorem dX12_readLine_69 : decode cX12_readLine 69 = .ok (.invokevirtual 384, 3) := by decide +kernel
theorem dX12_readLine_72 : decode cX12_readLine 72 = .ok (.ifCond .eq 12, 3) := by decide +kernel
theorem dX12_readLine_75 : decode cX12_readLine 75 = .ok (.aload_n 0, 1) := by decide +kernel
theorem dX12_readLine_76 : decode cX12_readLine 76 = .ok (.iload_n 1, 1) := by decide +kernel
theorem dX12_readLine_77 : decode cX12_readLine 77 = .ok (.iload_n 2, 1) := by decide +kernel
theorem dX12_readLine_78 : decode cX12_readLine 78 = .ok (.iload_n 3, 1) := by decide +kernel
theorem dX12_readLine_79 : decode cX12_readLine 79 = .ok (.invokevirtual 120, 3) := by decide +kernel
theorem dX12_readLine_82 : decode cX12_readLine 82 = .ok (.istore 4, 2) := by decide +kernel
theorem dX12_readLine_84 : decode cX12_readLine 84 = .ok (.return_, 1) := by decide +kernel
noncomputable def j_X12_readLine_46   (x1 : Int) (M : Mem) : Option (Mem) :=
  cl2 (f_X12_read 0 ((M 140 3) - 1) M) (fun r_9 M_10 => cl2 (f_X12_read 1 99 M_10) (fun r_11 M_12 => cl1 (f_X12_isWell M_12) (fun r_13 => (if w32 r_13 = 0 then some M_12 else cl2 (f_X12_addsLine x1 r_9 r_11 M_12) (fun r_15 M_16 => some M_16)))))
set_option maxRecDepth 100000 in
set_option maxHeartbeats 4000000 in
theorem tj_X12_readLine_46 {X : Cxt} (hX : Gd X RX12 cX12_readLine 5 (none) 5) (hs : SOK (xG X))   (x1 : Int) (M : Mem) (Mr : Mem) (h : j_X12_readLine_46 x1 M = some Mr) : V X 0 0 (Qn X none Mr) 46 [some (vr (xG X) 139), some (vi x1), none, none, none] [] M := by
  unfold j_X12_readLine_46 at h
  refine x_aloadn hX dX12_readLine_46 rfl ?_
  refine x_iconst hX dX12_readLine_47 ?_
  refine x_aloadn hX dX12_readLine_48 rfl ?_
  refine x_getRj (j := 140) hX dX12_readLine_49 fl_X12_7 rfl (st139 hs) rfl ?_
  refine x_iconst hX dX12_readLine_52 ?_
  refine x_iald hX dX12_readLine_53 (st140 hs) inc_3_469 ixc_3 ?_
  refine x_iconst hX dX12_readLine_54 ?_
  refine x_isub hX dX12_readLine_55 ?_
  obtain ⟨r_9, M_10, er_9, h⟩ := cl2_of h
  refine x_callVi (t := 11) (As := [vi 0, vi ((M 140 3) - 1)]) (rest := []) hX dX12_readLine_56 (c_X12_read (gk hX) (gl hX) hs 0 ((M 140 3) - 1) M _ _ er_9) kX12_read vX12_read w_2301 (st139 hs) rfl rfl rfl rfl (Nat.le_of_ble_eq_true rfl) z0 ?_
  refine x_istoren (ls' := [some (vr (xG X) 139), some (vi x1), some (vi r_9), none, none]) hX dX12_readLine_59 rfl rfl rfl ?_
  refine x_aloadn hX dX12_readLine_60 rfl ?_
  refine x_iconst hX dX12_readLine_61 ?_
  refine x_bipush hX dX12_readLine_62 bp_99 ?_
  obtain ⟨r_11, M_12, er_11, h⟩ := cl2_of h
  refine x_callVi (t := 11) (As := [vi 1, vi 99]) (rest := []) hX dX12_readLine_64 (c_X12_read (gk hX) (gl hX) hs 1 99 M_10 _ _ er_11) kX12_read vX12_read w_2301 (st139 hs) rfl rfl rfl rfl (Nat.le_of_ble_eq_true rfl) z0 ?_
  refine x_istoren (ls' := [some (vr (xG X) 139), some (vi x1), some (vi r_9), some (vi r_11), none]) hX dX12_readLine_67 rfl rfl rfl ?_
  refine x_aloadn hX dX12_readLine_68 rfl ?_
  obtain ⟨r_13, er_13, h⟩ := cl1_of h
  refine x_callVi (t := 11) (As := []) (rest := []) hX dX12_readLine_69 (c_X12_isWell (gk hX) (gl hX) hs M_12 _ er_13) kX12_isWell vX12_isWell w_2305 (st139 hs) rfl rfl rfl rfl (Nat.le_of_ble_eq_true rfl) z0 ?_
  refine x_if_eq (tgt := 84) hX dX12_readLine_72 (by decide) rfl (fun hc => ?_) (fun hc => ?_)
  · replace h := (if_pos hc).symm.trans h
    cases h
    exact x_vret hX dX12_readLine_84 rfl
  · replace h := (if_neg hc).symm.trans h
    refine x_aloadn hX dX12_readLine_75 rfl ?_
    refine x_iloadn hX dX12_readLine_76 rfl ?_
    refine x_iloadn hX dX12_readLine_77 rfl ?_
    refine x_iloadn hX dX12_readLine_78 rfl ?_
    obtain ⟨r_15, M_16, er_15, h⟩ := cl2_of h
    refine x_callVi (t := 11) (As := [vi x1, vi r_9, vi r_11]) (rest := []) hX dX12_readLine_79 (c_X12_addsLine (gk hX) (gl hX) hs x1 r_9 r_11 M_12 _ _ er_15) kX12_addsLine vX12_addsLine w_1808 (st139 hs) rfl rfl rfl rfl (Nat.le_of_ble_eq_true rfl) z0 ?_
    refine x_istore (ls' := [some (vr (xG X) 139), some (vi x1), some (vi r_9), some (vi r_11), some (vi r_15)]) hX dX12_readLine_82 rfl rfl rfl ?_
    cases h
    exact x_vret hX dX12_readLine_84 rfl
noncomputable def f_X12_readLine  (x1 : Int) (M : Mem) : Option (Mem) :=
  cl1 (f_X12_ofOrder x1 2 M) (fun r_1 => (if w32 r_1 = 6 then cl1 (f_X12_fails 3 M) (fun M_4 => some M_4) else cl1 (f_X12_next M) (fun M_6 => (if w32 (M_6 139 26) = 2 then cl1 (f_X12_hasLine x1 (M_6 139 27) M_6) (fun r_7 => (if w32 r_7 = 0 then j_X12_readLine_46 x1 M_6 else cl1 (f_X12_fails 2 M_6) (fun M_18 => j_X12_readLine_46 x1 M_18))) else j_X12_readLine_46 x1 M_6))))
set_option maxRecDepth 100000 in
set_option maxHeartbeats 4000000 in
theorem c_X12_readLine {l : Launch} {G : Gx} (hG : GOK G) (hl : l.stackTraces = false) (hs : SOK G)  (x1 : Int) (M : Mem) (Mr : Mem) (h : f_X12_readLine x1 M = some Mr) : Cn l G mX12_readLine 5 [vr G 139, vi x1] M none Mr := by
  refine Cn_of2 (ls := [some (vr G 139), some (vi x1), none, none, none]) hG hl kX12_readLine rfl (Nat.le_of_ble_eq_true rfl) rfl rfl rfl rfl rfl (fun X eG el hX => ?_)
  subst eG; subst el
  unfold f_X12_readLine at h
  refine x_aloadn hX dX12_readLine_0 rfl ?_
  refine x_iloadn hX dX12_readLine_1 rfl ?_
  refine x_iconst hX dX12_readLine_2 ?_
  obtain ⟨r_1, er_1, h⟩ := cl1_of h
  refine x_callVi (t := 11) (As := [vi x1, vi 2]) (rest := []) hX dX12_readLine_3 (c_X12_ofOrder (gk hX) (gl hX) hs x1 2 M _ er_1) kX12_ofOrder vX12_ofOrder w_1797 (st139 hs) rfl rfl rfl rfl (Nat.le_of_ble_eq_true rfl) z0 ?_
  refine x_bipush hX dX12_readLine_6 bp_6 ?_
  refine x_icmp_ne (tgt := 17) hX dX12_readLine_8 (by decide) rfl cw_6 (fun hc => ?_) (fun hc => ?_)
  · replace h := (if_pos hc).symm.trans h
    refine x_aloadn hX dX12_readLine_11 rfl ?_
    refine x_iconst hX dX12_readLine_12 ?_
    obtain ⟨M_4, er_3, h⟩ := cl1_of h
    refine x_callVv (t := 11) (As := [vi 3]) (rest := []) hX dX12_readLine_13 (c_X12_fails (gk hX) (gl hX) hs 3 M _ er_3) kX12_fails vX12_fails w_2297 (st139 hs) rfl rfl rfl rfl (Nat.le_of_ble_eq_true rfl) z0 ?_
    cases h
    exact x_vret hX dX12_readLine_16 rfl
  · replace h := (if_neg hc).symm.trans h
    refine x_aloadn hX dX12_readLine_17 rfl ?_
    obtain ⟨M_6, er_5, h⟩ := cl1_of h
    refine x_callVv (t := 11) (As := []) (rest := []) hX dX12_readLine_18 (c_X12_next (gk hX) (gl hX) hs M _ er_5) kX12_next vX12_next w_2272 (st139 hs) rfl rfl rfl rfl (Nat.le_of_ble_eq_true rfl) z0 ?_
    refine x_aloadn hX dX12_readLine_21 rfl ?_
    refine x_getI hX dX12_readLine_22 fl_X12_371 rfl (st139 hs) ?_
    refine x_iconst hX dX12_readLine_25 ?_
    refine x_icmp_ne (tgt := 46) hX dX12_readLine_26 (by decide) rfl cw_2 (fun hc => ?_) (fun hc => ?_)
    · replace h := (if_pos hc).symm.trans h
      refine x_aloadn hX dX12_readLine_29 rfl ?_
      refine x_iloadn hX dX12_readLine_30 rfl ?_
      refine x_aloadn hX dX12_readLine_31 rfl ?_
      refine x_getI hX dX12_readLine_32 fl_X12_374 rfl (st139 hs) ?_
      obtain ⟨r_7, er_7, h⟩ := cl1_of h
      refine x_callVi (t := 11) (As := [vi x1, vi (M_6 139 27)]) (rest := []) hX dX12_readLine_35 (c_X12_hasLine (gk hX) (gl hX) hs x1 (M_6 139 27) M_6 _ er_7) kX12_hasLine vX12_hasLine w_1801 (st139 hs) rfl rfl rfl rfl (Nat.le_of_ble_eq_true rfl) z0 ?_
      refine x_if_eq (tgt := 46) hX dX12_readLine_38 (by decide) rfl (fun hc => ?_) (fun hc => ?_)
      · replace h := (if_pos hc).symm.trans h
        exact x_weak [true, true, false, false, false] rfl (tj_X12_readLine_46 hX hs x1 M_6 Mr h)
      · replace h := (if_neg hc).symm.trans h
        refine x_aloadn hX dX12_readLine_41 rfl ?_
        refine x_iconst hX dX12_readLine_42 ?_
        obtain ⟨M_18, er_17, h⟩ := cl1_of h
        refine x_callVv (t := 11) (As := [vi 2]) (rest := []) hX dX12_readLine_43 (c_X12_fails (gk hX) (gl hX) hs 2 M_6 _ er_17) kX12_fails vX12_fails w_2297 (st139 hs) rfl rfl rfl rfl (Nat.le_of_ble_eq_true rfl) z0 ?_
        exact x_weak [true, true, false, false, false] rfl (tj_X12_readLine_46 hX hs x1 M_18 Mr h)
    · replace h := (if_neg hc).symm.trans h
      exact x_weak [true, true, false, false, false] rfl (tj_X12_readLine_46 hX hs x1 M_6 Mr h)
