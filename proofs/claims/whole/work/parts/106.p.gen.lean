-- written by wip/gen/emit.py: X10_readZones, X10_readBuffer, X10_readTimes, X11_savedDistance, X4_measureBatches, X4_tryMoves, X6_listStops, X7_runAll, X10_isWord, X11_makespan, X11_lateOrders, X11_tardinessNow
theorem dX10_readZones_0 : decode cX10_readZones 0 = .ok (.aload_n 0, 1) := by decide +kernel
theorem dX10_readZones_1 : decode cX10_readZones 1 = .ok (.iconst 1, 1) := by decide +kernel
theorem dX10_readZones_2 : decode cX10_readZones 2 = .ok (.aload_n 1, 1) := by decide +kernel
theorem dX10_readZones_3 : decode cX10_readZones 3 = .ok (.getfield 120, 3) := by decide +kernel
theorem dX10_readZones_6 : decode cX10_readZones 6 = .ok (.iconst 1, 1) := by decide +kernel
theorem dX10_readZones_7 : decode cX10_readZones 7 = .ok (.isub, 1) := by decide +kernel
theorem dX10_readZones_8 : decode cX10_readZones 8 = .ok (.invokevirtual 64, 3) := by decide +kernel
theorem dX10_readZones_11 : decode cX10_readZones 11 = .ok (.ifCond .ne 5, 3) := by decide +kernel
theorem dX10_readZones_14 : decode cX10_readZones 14 = .ok (.iconst 0, 1) := by decide +kernel
theorem dX10_readZones_15 : decode cX10_readZones 15 = .ok (.ireturn, 1) := by decide +kernel
theorem dX10_readZones_16 : decode cX10_readZones 16 = .ok (.aload_n 0, 1) := by decide +kernel
theorem dX10_readZones_17 : decode cX10_readZones 17 = .ok (.getfield 68, 3) := by decide +kernel
theorem dX10_readZones_20 : decode cX10_readZones 20 = .ok (.istore_n 2, 1) := by decide +kernel
theorem dX10_readZones_21 : decode cX10_readZones 21 = .ok (.iconst (-1), 1) := by decide +kernel
theorem dX10_readZones_22 : decode cX10_readZones 22 = .ok (.istore_n 3, 1) := by decide +kernel
theorem dX10_readZones_23 : decode cX10_readZones 23 = .ok (.aload_n 0, 1) := by decide +kernel
theorem dX10_readZones_24 : decode cX10_readZones 24 = .ok (.invokevirtual 41, 3) := by decide +kernel
theorem dX10_readZones_27 : decode cX10_readZones 27 = .ok (.aload_n 0, 1) := by decide +kernel
theorem dX10_readZones_28 : decode cX10_readZones 28 = .ok (.getfield 44, 3) := by decide +kernel
theorem dX10_readZones_31 : decode cX10_readZones 31 = .ok (.iconst 2, 1) := by decide +kernel
theorem dX10_readZones_32 : decode cX10_readZones 32 = .ok (.if_icmp .ne 34, 3) := by decide +kernel
theorem dX10_readZones_35 : decode cX10_readZones 35 = .ok (.aload_n 0, 1) := by decide +kernel
theorem dX10_readZones_36 : decode cX10_readZones 36 = .ok (.iload_n 2, 1) := by decide +kernel
theorem dX10_readZones_37 : decode cX10_readZones 37 = .ok (.iconst 1, 1) := by decide +kernel
theorem dX10_readZones_38 : decode cX10_readZones 38 = .ok (.iadd, 1) := by decide +kernel
theorem dX10_readZones_39 : decode cX10_readZones 39 = .ok (.aload_n 1, 1) := by decide +kernel
theorem dX10_readZones_40 : decode cX10_readZones 40 = .ok (.getfield 120, 3) := by decide +kernel
theorem dX10_readZones_43 : decode cX10_readZones 43 = .ok (.iconst 1, 1) := by decide +kernel
theorem dX10_readZones_44 : decode cX10_readZones 44 = .ok (.isub, 1) := by decide +kernel
theorem dX10_readZones_45 : decode cX10_readZones 45 = .ok (.invokevirtual 149, 3) := by decide +kernel
theorem dX10_readZones_48 : decode cX10_readZones 48 = .ok (.ifCond .ne 9, 3) := by decide +kernel
theorem dX10_readZones_51 : decode cX10_readZones 51 = .ok (.aload_n 0, 1) := by decide +kernel
theorem dX10_readZones_52 : decode cX10_readZones 52 = .ok (.iconst 2, 1) := by decide +kernel
theorem dX10_readZones_53 : decode cX10_readZones 53 = .ok (.invokevirtual 60, 3) := by decide +kernel
theorem dX10_readZones_56 : decode cX10_readZones 56 = .ok (.ireturn, 1) := by decide +kernel
theorem dX10_readZones_57 : decode cX10_readZones 57 = .ok (.aload_n 0, 1) := by decide +kernel
theorem dX10_readZones_58 : decode cX10_readZones 58 = .ok (.getfield 68, 3) := by decide +kernel
theorem dX10_readZones_61 : decode cX10_readZones 61 = .ok (.istore_n 3, 1) := by decide +kernel
theorem dX10_readZones_62 : decode cX10_readZones 62 = .ok (.aload_n 0, 1) := by decide +kernel
theorem dX10_readZones_63 : decode cX10_readZones 63 = .ok (.invokevirtual 41, 3) := by decide +kernel
theorem dX10_readZones_66 : decode cX10_readZones 66 = .ok (.aload_n 1, 1) := by decide +kernel
theorem dX10_readZones_67 : decode cX10_readZones 67 = .ok (.iload_n 2, 1) := by decide +kernel
theorem dX10_readZones_68 : decode cX10_readZones 68 = .ok (.iload_n 3, 1) := by decide +kernel
theorem dX10_readZones_69 : decode cX10_readZones 69 = .ok (.invokevirtual 152, 3) := by decide +kernel
theorem dX10_readZones_72 : decode cX10_readZones 72 = .ok (.aload_n 0, 1) := by decide +kernel
theorem dX10_readZones_73 : decode cX10_readZones 73 = .ok (.getfield 44, 3) := by decide +kernel
theorem dX10_readZones_76 : decode cX10_readZones 76 = .ok (.iconst 3, 1) := by decide +kernel
theorem dX10_readZones_77 : decode cX10_readZones 77 = .ok (.if_icmp .eq 11, 3) := by decide +kernel
theorem dX10_readZones_80 : decode cX10_readZones 80 = .ok (.aload_n 0, 1) := by decide +kernel
theorem dX10_readZones_81 : decode cX10_readZones 81 = .ok (.iconst 1, 1) := by decide +kernel
theorem dX10_readZones_82 : decode cX10_readZones 82 = .ok (.invokevirtual 60, 3) := by decide +kernel
theorem dX10_readZones_85 : decode cX10_readZones 85 = .ok (.ifCond .eq 7, 3) := by decide +kernel
theorem dX10_readZones_88 : decode cX10_readZones 88 = .ok (.iconst 1, 1) := by decide +kernel
theorem dX10_readZones_89 : decode cX10_readZones 89 = .ok (.goto 4, 3) := by decide +kernel
theorem dX10_readZones_92 : decode cX10_readZones 92 = .ok (.iconst 0, 1) := by decide +kernel
theorem dX10_readZones_93 : decode cX10_readZones 93 = .ok (.ireturn, 1) := by decide +kernel
noncomputable def j_X10_readZones_88 (a1 : Nat)  (M : Mem) : Option (Int × Mem) :=
  some (1, M)
set_option maxRecDepth 100000 in
set_option maxHeartbeats 4000000 in
theorem tj_X10_readZones_88 {X : Cxt} (hX : Gd X RX10 cX10_readZones 4 (some .boolean) 4) {a1 : Nat} (h1 : at_ (xG X) a1 13 0)  (M : Mem) (r : Int) (Mr : Mem) (h : j_X10_readZones_88 a1 M = some (r, Mr)) : V X 0 0 (Qn X (some (vi r)) Mr) 88 [none, none, none, none] [] M := by
  unfold j_X10_readZones_88 at h
  refine x_iconst hX dX10_readZones_88 ?_
  refine x_goto (tgt := 93) hX dX10_readZones_89 (by decide) ?_
  cases h
  exact x_zret hX dX10_readZones_93 (Or.inr cw_1) rfl
noncomputable def j_X10_readZones_66 (a1 : Nat)  (x2 : Int) (x3 : Int) (M : Mem) : Option (Int × Mem) :=
  cl1 (f_X3_divide a1 x2 x3 M) (fun M_15 => (if w32 (M_15 38 4) = 3 then j_X10_readZones_88 a1 M_15 else cl2 (f_X10_fail 1 M_15) (fun r_16 M_17 => (if w32 r_16 = 0 then some (0, M_17) else j_X10_readZones_88 a1 M_17))))
set_option maxRecDepth 100000 in
set_option maxHeartbeats 4000000 in
theorem tj_X10_readZones_66 {X : Cxt} (hX : Gd X RX10 cX10_readZones 4 (some .boolean) 4) {a1 : Nat} (h1 : at_ (xG X) a1 13 0)  (x2 : Int) (x3 : Int) (M : Mem) (r : Int) (Mr : Mem) (h : j_X10_readZones_66 a1 x2 x3 M = some (r, Mr)) : V X 0 0 (Qn X (some (vi r)) Mr) 66 [some (vr (xG X) 38), some (vr (xG X) a1), some (vi x2), some (vi x3)] [] M := by
  unfold j_X10_readZones_66 at h
  refine x_aloadn hX dX10_readZones_66 rfl ?_
  refine x_iloadn hX dX10_readZones_67 rfl ?_
  refine x_iloadn hX dX10_readZones_68 rfl ?_
  obtain ⟨M_15, er_14, h⟩ := cl1_of h
  refine x_callVv (t := 3) (As := [vi x2, vi x3]) (rest := []) hX dX10_readZones_69 (c_X3_divide (gk hX) (gl hX) h1 x2 x3 M _ er_14) kX3_divide vX3_divide w_902 h1 rfl rfl rfl rfl (Nat.le_of_ble_eq_true rfl) z0 ?_
  refine x_aloadn hX dX10_readZones_72 rfl ?_
  refine x_getI hX dX10_readZones_73 fl_X10_44 rfl (st38 (gk hX)) ?_
  refine x_iconst hX dX10_readZones_76 ?_
  refine x_icmp_eq (tgt := 88) hX dX10_readZones_77 (by decide) rfl cw_3 (fun hc => ?_) (fun hc => ?_)
  · replace h := (if_pos hc).symm.trans h
    exact x_weak [false, false, false, false] rfl (tj_X10_readZones_88 hX h1 M_15 r Mr h)
  · replace h := (if_neg hc).symm.trans h
    refine x_aloadn hX dX10_readZones_80 rfl ?_
    refine x_iconst hX dX10_readZones_81 ?_
    obtain ⟨r_16, M_17, er_16, h⟩ := cl2_of h
    refine x_callVi (t := 9) (As := [vi 1]) (rest := []) hX dX10_readZones_82 (c_X10_fail (gk hX) (gl hX) 1 M_15 _ _ er_16) kX10_fail vX10_fail w_849 (st38 (gk hX)) rfl rfl rfl rfl (Nat.le_of_ble_eq_true rfl) z0 ?_
    refine x_if_eq (tgt := 92) hX dX10_readZones_85 (by decide) rfl (fun hc => ?_) (fun hc => ?_)
    · replace h := (if_pos hc).symm.trans h
      refine x_iconst hX dX10_readZones_92 ?_
      cases h
      exact x_zret hX dX10_readZones_93 (Or.inl cw_0) rfl
    · replace h := (if_neg hc).symm.trans h
      exact x_weak [false, false, false, false] rfl (tj_X10_readZones_88 hX h1 M_17 r Mr h)
noncomputable def f_X10_readZones (a1 : Nat) (M : Mem) : Option (Int × Mem) :=
  cl2 (f_X10_readNumber 1 ((M a1 0) - 1) M) (fun r_1 M_2 => (if w32 r_1 = 0 then some (0, M_2) else bnd (M_2 38 7) (fun x2_3 => cl1 (f_X10_nextToken M_2) (fun M_5 => (if w32 (M_5 38 4) = 2 then cl1 (f_X10_isWithin (x2_3 + 1) ((M_5 a1 0) - 1) M_5) (fun r_6 => (if w32 r_6 = 0 then cl2 (f_X10_fail 2 M_5) (fun r_8 M_9 => gz r_8 (some (r_8, M_9))) else bnd (M_5 38 7) (fun x3_11 => cl1 (f_X10_nextToken M_5) (fun M_13 => j_X10_readZones_66 a1 x2_3 x3_11 M_13)))) else j_X10_readZones_66 a1 x2_3 (-1) M_5)))))
set_option maxRecDepth 100000 in
set_option maxHeartbeats 4000000 in
theorem c_X10_readZones {l : Launch} {G : Gx} (hG : GOK G) (hl : l.stackTraces = false) {a1 : Nat} (h1 : at_ G a1 13 0) (M : Mem) (r : Int) (Mr : Mem) (h : f_X10_readZones a1 M = some (r, Mr)) : Cn l G mX10_readZones 4 [vr G 38, vr G a1] M (some (vi r)) Mr := by
  refine Cn_of2 (ls := [some (vr G 38), some (vr G a1), none, none]) hG hl kX10_readZones rfl (Nat.le_of_ble_eq_true rfl) rfl rfl rfl rfl rfl (fun X eG el hX => ?_)
  subst eG; subst el
  unfold f_X10_readZones at h
  refine x_aloadn hX dX10_readZones_0 rfl ?_
  refine x_iconst hX dX10_readZones_1 ?_
  refine x_aloadn hX dX10_readZones_2 rfl ?_
  refine x_getI hX dX10_readZones_3 fl_X10_120 rfl h1 ?_
  refine x_iconst hX dX10_readZones_6 ?_
  refine x_isub hX dX10_readZones_7 ?_
  obtain ⟨r_1, M_2, er_1, h⟩ := cl2_of h
  refine x_callVi (t := 9) (As := [vi 1, vi ((M a1 0) - 1)]) (rest := []) hX dX10_readZones_8 (c_X10_readNumber (gk hX) (gl hX) 1 ((M a1 0) - 1) M _ _ er_1) kX10_readNumber vX10_readNumber w_853 (st38 (gk hX)) rfl rfl rfl rfl (Nat.le_of_ble_eq_true rfl) z0 ?_
  refine x_if_ne (tgt := 16) hX dX10_readZones_11 (by decide) rfl (fun hc => ?_) (fun hc => ?_)
  · replace h := (if_pos hc).symm.trans h
    refine x_iconst hX dX10_readZones_14 ?_
    cases h
    exact x_zret hX dX10_readZones_15 (Or.inl cw_0) rfl
  · replace h := (if_neg hc).symm.trans h
    refine x_aloadn hX dX10_readZones_16 rfl ?_
    refine x_getI hX dX10_readZones_17 fl_X10_68 rfl (st38 (gk hX)) ?_
    obtain ⟨x2_3, ex2_3, h⟩ := bnd_of h
    refine x_istoren (ls' := [some (vr (xG X) 38), some (vr (xG X) a1), some (vi x2_3), none]) hX dX10_readZones_20 rfl ex2_3 rfl ?_
    refine x_iconst hX dX10_readZones_21 ?_
    refine x_istoren (ls' := [some (vr (xG X) 38), some (vr (xG X) a1), some (vi x2_3), some (vi (-1))]) hX dX10_readZones_22 rfl rfl rfl ?_
    refine x_aloadn hX dX10_readZones_23 rfl ?_
    obtain ⟨M_5, er_4, h⟩ := cl1_of h
    refine x_callVv (t := 9) (As := []) (rest := []) hX dX10_readZones_24 (c_X10_nextToken (gk hX) (gl hX) M_2 _ er_4) kX10_nextToken vX10_nextToken w_783 (st38 (gk hX)) rfl rfl rfl rfl (Nat.le_of_ble_eq_true rfl) z0 ?_
    refine x_aloadn hX dX10_readZones_27 rfl ?_
    refine x_getI hX dX10_readZones_28 fl_X10_44 rfl (st38 (gk hX)) ?_
    refine x_iconst hX dX10_readZones_31 ?_
    refine x_icmp_ne (tgt := 66) hX dX10_readZones_32 (by decide) rfl cw_2 (fun hc => ?_) (fun hc => ?_)
    · replace h := (if_pos hc).symm.trans h
      refine x_aloadn hX dX10_readZones_35 rfl ?_
      refine x_iloadn hX dX10_readZones_36 rfl ?_
      refine x_iconst hX dX10_readZones_37 ?_
      refine x_iadd hX dX10_readZones_38 ?_
      refine x_aloadn hX dX10_readZones_39 rfl ?_
      refine x_getI hX dX10_readZones_40 fl_X10_120 rfl h1 ?_
      refine x_iconst hX dX10_readZones_43 ?_
      refine x_isub hX dX10_readZones_44 ?_
      obtain ⟨r_6, er_6, h⟩ := cl1_of h
      refine x_callVi (t := 9) (As := [vi (x2_3 + 1), vi ((M_5 a1 0) - 1)]) (rest := []) hX dX10_readZones_45 (c_X10_isWithin (gk hX) (gl hX) (x2_3 + 1) ((M_5 a1 0) - 1) M_5 _ er_6) kX10_isWithin vX10_isWithin w_857 (st38 (gk hX)) rfl rfl rfl rfl (Nat.le_of_ble_eq_true rfl) z0 ?_
      refine x_if_ne (tgt := 57) hX dX10_readZones_48 (by decide) rfl (fun hc => ?_) (fun hc => ?_)
      · replace h := (if_pos hc).symm.trans h
        refine x_aloadn hX dX10_readZones_51 rfl ?_
        refine x_iconst hX dX10_readZones_52 ?_
        obtain ⟨r_8, M_9, er_8, h⟩ := cl2_of h
        refine x_callVi (t := 9) (As := [vi 2]) (rest := []) hX dX10_readZones_53 (c_X10_fail (gk hX) (gl hX) 2 M_5 _ _ er_8) kX10_fail vX10_fail w_849 (st38 (gk hX)) rfl rfl rfl rfl (Nat.le_of_ble_eq_true rfl) z0 ?_
        obtain ⟨b_10, h⟩ := gz_of h
        cases h
        exact x_zret hX dX10_readZones_56 b_10 rfl
      · replace h := (if_neg hc).symm.trans h
        refine x_aloadn hX dX10_readZones_57 rfl ?_
        refine x_getI hX dX10_readZones_58 fl_X10_68 rfl (st38 (gk hX)) ?_
        obtain ⟨x3_11, ex3_11, h⟩ := bnd_of h
        refine x_istoren (ls' := [some (vr (xG X) 38), some (vr (xG X) a1), some (vi x2_3), some (vi x3_11)]) hX dX10_readZones_61 rfl ex3_11 rfl ?_
        refine x_aloadn hX dX10_readZones_62 rfl ?_
        obtain ⟨M_13, er_12, h⟩ := cl1_of h
        refine x_callVv (t := 9) (As := []) (rest := []) hX dX10_readZones_63 (c_X10_nextToken (gk hX) (gl hX) M_5 _ er_12) kX10_nextToken vX10_nextToken w_783 (st38 (gk hX)) rfl rfl rfl rfl (Nat.le_of_ble_eq_true rfl) z0 ?_
        exact x_weak [true, true, true, true] rfl (tj_X10_readZones_66 hX h1 x2_3 x3_11 M_13 r Mr h)
    · replace h := (if_neg hc).symm.trans h
      exact x_weak [true, true, true, true] rfl (tj_X10_readZones_66 hX h1 x2_3 (-1) M_5 r Mr h)
theorem dX10_readBuffer_0 : decode cX10_readBuffer 0 = .ok (.aload_n 0, 1) := by decide +kernel
theorem dX10_readBuffer_1 : decode cX10_readBuffer 1 = .ok (.iconst 0, 1) := by decide +kernel
theorem dX10_readBuffer_2 : decode cX10_readBuffer 2 = .ok (.iconst 1, 1) := by decide +kernel
theorem dX10_readBuffer_3 : decode cX10_readBuffer 3 = .ok (.invokevirtual 64, 3) := by decide +kernel
theorem dX10_readBuffer_6 : decode cX10_readBuffer 6 = .ok (.ifCond .ne 5, 3) := by decide +kernel
theorem dX10_readBuffer_9 : decode cX10_readBuffer 9 = .ok (.iconst 0, 1) := by decide +kernel
theorem dX10_readBuffer_10 : decode cX10_readBuffer 10 = .ok (.ireturn, 1) := by decide +kernel
theorem dX10_readBuffer_11 : decode cX10_readBuffer 11 = .ok (.aload_n 0, 1) := by decide +kernel
theorem dX10_readBuffer_12 : decode cX10_readBuffer 12 = .ok (.getfield 68, 3) := by decide +kernel
theorem dX10_readBuffer_15 : decode cX10_readBuffer 15 = .ok (.istore_n 2, 1) := by decide +kernel
theorem dX10_readBuffer_16 : decode cX10_readBuffer 16 = .ok (.aload_n 0, 1) := by decide +kernel
theorem dX10_readBuffer_17 : decode cX10_readBuffer 17 = .ok (.iconst 0, 1) := by decide +kernel
theorem dX10_readBuffer_18 : decode cX10_readBuffer 18 = .ok (.iconst 4, 1) := by decide +kernel
theorem dX10_readBuffer_19 : decode cX10_readBuffer 19 = .ok (.invokevirtual 64, 3) := by decide +kernel
theorem dX10_readBuffer_22 : decode cX10_readBuffer 22 = .ok (.ifCond .ne 5, 3) := by decide +kernel
theorem dX10_readBuffer_25 : decode cX10_readBuffer 25 = .ok (.iconst 0, 1) := by decide +kernel
theorem dX10_readBuffer_26 : decode cX10_readBuffer 26 = .ok (.ireturn, 1) := by decide +kernel
theorem dX10_readBuffer_27 : decode cX10_readBuffer 27 = .ok (.aload_n 1, 1) := by decide +kernel
theorem dX10_readBuffer_28 : decode cX10_readBuffer 28 = .ok (.getfield 156, 3) := by decide +kernel
theorem dX10_readBuffer_31 : decode cX10_readBuffer 31 = .ok (.iload_n 2, 1) := by decide +kernel
theorem dX10_readBuffer_32 : decode cX10_readBuffer 32 = .ok (.aload_n 0, 1) := by decide +kernel
theorem dX10_readBuffer_33 : decode cX10_readBuffer 33 = .ok (.getfield 68, 3) := by decide +kernel
theorem dX10_readBuffer_36 : decode cX10_readBuffer 36 = .ok (.iastore, 1) := by decide +kernel
theorem dX10_readBuffer_37 : decode cX10_readBuffer 37 = .ok (.aload_n 0, 1) := by decide +kernel
theorem dX10_readBuffer_38 : decode cX10_readBuffer 38 = .ok (.invokevirtual 77, 3) := by decide +kernel
theorem dX10_readBuffer_41 : decode cX10_readBuffer 41 = .ok (.ireturn, 1) := by decide +kernel
noncomputable def f_X10_readBuffer (a1 : Nat) (M : Mem) : Option (Int × Mem) :=
  cl2 (f_X10_readNumber 0 1 M) (fun r_1 M_2 => (if w32 r_1 = 0 then some (0, M_2) else bnd (M_2 38 7) (fun x2_3 => cl2 (f_X10_readNumber 0 4 M_2) (fun r_4 M_5 => (if w32 r_4 = 0 then some (0, M_5) else gi x2_3 2 (bnd (upd2 M_5 (a1 + 2) (ix x2_3) (M_5 38 7)) (fun M_6 => cl2 (f_X10_readSemicolon M_6) (fun r_8 M_9 => gz r_8 (some (r_8, M_9))))))))))
set_option maxRecDepth 100000 in
set_option maxHeartbeats 4000000 in
theorem c_X10_readBuffer {l : Launch} {G : Gx} (hG : GOK G) (hl : l.stackTraces = false) {a1 : Nat} (h1 : at_ G a1 13 0) (M : Mem) (r : Int) (Mr : Mem) (h : f_X10_readBuffer a1 M = some (r, Mr)) : Cn l G mX10_readBuffer 4 [vr G 38, vr G a1] M (some (vi r)) Mr := by
  refine Cn_of2 (ls := [some (vr G 38), some (vr G a1), none]) hG hl kX10_readBuffer rfl (Nat.le_of_ble_eq_true rfl) rfl rfl rfl rfl rfl (fun X eG el hX => ?_)
  subst eG; subst el
  unfold f_X10_readBuffer at h
  refine x_aloadn hX dX10_readBuffer_0 rfl ?_
  refine x_iconst hX dX10_readBuffer_1 ?_
  refine x_iconst hX dX10_readBuffer_2 ?_
  obtain ⟨r_1, M_2, er_1, h⟩ := cl2_of h
  refine x_callVi (t := 9) (As := [vi 0, vi 1]) (rest := []) hX dX10_readBuffer_3 (c_X10_readNumber (gk hX) (gl hX) 0 1 M _ _ er_1) kX10_readNumber vX10_readNumber w_853 (st38 (gk hX)) rfl rfl rfl rfl (Nat.le_of_ble_eq_true rfl) z0 ?_
  refine x_if_ne (tgt := 11) hX dX10_readBuffer_6 (by decide) rfl (fun hc => ?_) (fun hc => ?_)
  · replace h := (if_pos hc).symm.trans h
    refine x_iconst hX dX10_readBuffer_9 ?_
    cases h
    exact x_zret hX dX10_readBuffer_10 (Or.inl cw_0) rfl
  · replace h := (if_neg hc).symm.trans h
    refine x_aloadn hX dX10_readBuffer_11 rfl ?_
    refine x_getI hX dX10_readBuffer_12 fl_X10_68 rfl (st38 (gk hX)) ?_
    obtain ⟨x2_3, ex2_3, h⟩ := bnd_of h
    refine x_istoren (ls' := [some (vr (xG X) 38), some (vr (xG X) a1), some (vi x2_3)]) hX dX10_readBuffer_15 rfl ex2_3 rfl ?_
    refine x_aloadn hX dX10_readBuffer_16 rfl ?_
    refine x_iconst hX dX10_readBuffer_17 ?_
    refine x_iconst hX dX10_readBuffer_18 ?_
    obtain ⟨r_4, M_5, er_4, h⟩ := cl2_of h
    refine x_callVi (t := 9) (As := [vi 0, vi 4]) (rest := []) hX dX10_readBuffer_19 (c_X10_readNumber (gk hX) (gl hX) 0 4 M_2 _ _ er_4) kX10_readNumber vX10_readNumber w_853 (st38 (gk hX)) rfl rfl rfl rfl (Nat.le_of_ble_eq_true rfl) z0 ?_
    refine x_if_ne (tgt := 27) hX dX10_readBuffer_22 (by decide) rfl (fun hc => ?_) (fun hc => ?_)
    · replace h := (if_pos hc).symm.trans h
      refine x_iconst hX dX10_readBuffer_25 ?_
      cases h
      exact x_zret hX dX10_readBuffer_26 (Or.inl cw_0) rfl
    · replace h := (if_neg hc).symm.trans h
      refine x_aloadn hX dX10_readBuffer_27 rfl ?_
      refine x_getRj (j := a1 + 2) hX dX10_readBuffer_28 fl_X10_156 rfl h1 rfl ?_
      refine x_iloadn hX dX10_readBuffer_31 rfl ?_
      refine x_aloadn hX dX10_readBuffer_32 rfl ?_
      refine x_getI hX dX10_readBuffer_33 fl_X10_68 rfl (st38 (gk hX)) ?_
      obtain ⟨b_7, h⟩ := gi_of h
      obtain ⟨M_6, eM_6, h⟩ := bnd_of h
      refine x_iast hX dX10_readBuffer_36 (fo_3_8 (gk hX) h1) b_7 rfl (x_meq eM_6 ?_)
      refine x_aloadn hX dX10_readBuffer_37 rfl ?_
      obtain ⟨r_8, M_9, er_8, h⟩ := cl2_of h
      refine x_callVi (t := 9) (As := []) (rest := []) hX dX10_readBuffer_38 (c_X10_readSemicolon (gk hX) (gl hX) M_6 _ _ er_8) kX10_readSemicolon vX10_readSemicolon w_862 (st38 (gk hX)) rfl rfl rfl rfl (Nat.le_of_ble_eq_true rfl) z0 ?_
      obtain ⟨b_10, h⟩ := gz_of h
      cases h
      exact x_zret hX dX10_readBuffer_41 b_10 rfl
theorem dX10_readTimes_0 : decode cX10_readTimes 0 = .ok (.aload_n 0, 1) := by decide +kernel
theorem dX10_readTimes_1 : decode cX10_readTimes 1 = .ok (.iconst 0, 1) := by decide +kernel
theorem dX10_readTimes_2 : decode cX10_readTimes 2 = .ok (.bipush 99, 2) := by decide +kernel
theorem dX10_readTimes_4 : decode cX10_readTimes 4 = .ok (.invokevirtual 64, 3) := by decide +kernel
theorem dX10_readTimes_7 : decode cX10_readTimes 7 = .ok (.ifCond .ne 5, 3) := by decide +kernel
theorem dX10_readTimes_10 : decode cX10_readTimes 10 = .ok (.iconst 0, 1) := by decide +kernel
theorem dX10_readTimes_11 : decode cX10_readTimes 11 = .ok (.ireturn, 1) := by decide +kernel
theorem dX10_readTimes_12 : decode cX10_readTimes 12 = .ok (.aload_n 1, 1) := by decide +kernel
theorem dX10_readTimes_13 : decode cX10_readTimes 13 = .ok (.aload_n 0, 1) := by decide +kernel
theorem dX10_readTimes_14 : decode cX10_readTimes 14 = .ok (.getfield 68, 3) := by decide +kernel
theorem dX10_readTimes_17 : decode cX10_readTimes 17 = .ok (.putfield 160, 3) := by decide +kernel
theorem dX10_readTimes_20 : decode cX10_readTimes 20 = .ok (.aload_n 0, 1) := by decide +kernel
theorem dX10_readTimes_21 : decode cX10_readTimes 21 = .ok (.iconst 0, 1) := by decide +kernel
theorem dX10_readTimes_22 : decode cX10_readTimes 22 = .ok (.bipush 99, 2) := by decide +kernel
theorem dX10_readTimes_24 : decode cX10_readTimes 24 = .ok (.invokevirtual 64, 3) := by decide +kernel
theorem dX10_readTimes_27 : decode cX10_readTimes 27 = .ok (.ifCond .ne 5, 3) := by decide +kernel
theorem dX10_readTimes_30 : decode cX10_readTimes 30 = .ok (.iconst 0, 1) := by decide +kernel
theorem dX10_readTimes_31 : decode cX10_readTimes 31 = .ok (.ireturn, 1) := by decide +kernel
theorem dX10_readTimes_32 : decode cX10_readTimes 32 = .ok (.aload_n 1, 1) := by decide +kernel
theorem dX10_readTimes_33 : decode cX10_readTimes 33 = .ok (.aload_n 0, 1) := by decide +kernel
theorem dX10_readTimes_34 : decode cX10_readTimes 34 = .ok (.getfield 68, 3) := by decide +kernel
theorem dX10_readTimes_37 : decode cX10_readTimes 37 = .ok (.putfield 163, 3) := by decide +kernel
theorem dX10_readTimes_40 : decode cX10_readTimes 40 = .ok (.aload_n 0, 1) := by decide +kernel
theorem dX10_readTimes_41 : decode cX10_readTimes 41 = .ok (.invokevirtual 77, 3) := by decide +kernel
theorem dX10_readTimes_44 : decode cX10_readTimes 44 = .ok (.ireturn, 1) := by decide +kernel
noncomputable def f_X10_readTimes (a1 : Nat) (M : Mem) : Option (Int × Mem) :=
  cl2 (f_X10_readNumber 0 99 M) (fun r_1 M_2 => (if w32 r_1 = 0 then some (0, M_2) else bnd (upd2 M_2 a1 6 (M_2 38 7)) (fun M_3 => cl2 (f_X10_readNumber 0 99 M_3) (fun r_4 M_5 => (if w32 r_4 = 0 then some (0, M_5) else bnd (upd2 M_5 a1 7 (M_5 38 7)) (fun M_6 => cl2 (f_X10_readSemicolon M_6) (fun r_7 M_8 => gz r_7 (some (r_7, M_8)))))))))
set_option maxRecDepth 100000 in
set_option maxHeartbeats 4000000 in
theorem c_X10_readTimes {l : Launch} {G : Gx} (hG : GOK G) (hl : l.stackTraces = false) {a1 : Nat} (h1 : at_ G a1 13 0) (M : Mem) (r : Int) (Mr : Mem) (h : f_X10_readTimes a1 M = some (r, Mr)) : Cn l G mX10_readTimes 4 [vr G 38, vr G a1] M (some (vi r)) Mr := by
  refine Cn_of2 (ls := [some (vr G 38), some (vr G a1)]) hG hl kX10_readTimes rfl (Nat.le_of_ble_eq_true rfl) rfl rfl rfl rfl rfl (fun X eG el hX => ?_)
  subst eG; subst el
  unfold f_X10_readTimes at h
  refine x_aloadn hX dX10_readTimes_0 rfl ?_
  refine x_iconst hX dX10_readTimes_1 ?_
  refine x_bipush hX dX10_readTimes_2 bp_99 ?_
  obtain ⟨r_1, M_2, er_1, h⟩ := cl2_of h
  refine x_callVi (t := 9) (As := [vi 0, vi 99]) (rest := []) hX dX10_readTimes_4 (c_X10_readNumber (gk hX) (gl hX) 0 99 M _ _ er_1) kX10_readNumber vX10_readNumber w_853 (st38 (gk hX)) rfl rfl rfl rfl (Nat.le_of_ble_eq_true rfl) z0 ?_
  refine x_if_ne (tgt := 12) hX dX10_readTimes_7 (by decide) rfl (fun hc => ?_) (fun hc => ?_)
  · replace h := (if_pos hc).symm.trans h
    refine x_iconst hX dX10_readTimes_10 ?_
    cases h
    exact x_zret hX dX10_readTimes_11 (Or.inl cw_0) rfl
  · replace h := (if_neg hc).symm.trans h
    refine x_aloadn hX dX10_readTimes_12 rfl ?_
    refine x_aloadn hX dX10_readTimes_13 rfl ?_
    refine x_getI hX dX10_readTimes_14 fl_X10_68 rfl (st38 (gk hX)) ?_
    obtain ⟨M_3, eM_3, h⟩ := bnd_of h
    refine x_putI hX dX10_readTimes_17 fp_X10_160 rfl h1 (x_meq eM_3 ?_)
    refine x_aloadn hX dX10_readTimes_20 rfl ?_
    refine x_iconst hX dX10_readTimes_21 ?_
    refine x_bipush hX dX10_readTimes_22 bp_99 ?_
    obtain ⟨r_4, M_5, er_4, h⟩ := cl2_of h
    refine x_callVi (t := 9) (As := [vi 0, vi 99]) (rest := []) hX dX10_readTimes_24 (c_X10_readNumber (gk hX) (gl hX) 0 99 M_3 _ _ er_4) kX10_readNumber vX10_readNumber w_853 (st38 (gk hX)) rfl rfl rfl rfl (Nat.le_of_ble_eq_true rfl) z0 ?_
    refine x_if_ne (tgt := 32) hX dX10_readTimes_27 (by decide) rfl (fun hc => ?_) (fun hc => ?_)
    · replace h := (if_pos hc).symm.trans h
      refine x_iconst hX dX10_readTimes_30 ?_
      cases h
      exact x_zret hX dX10_readTimes_31 (Or.inl cw_0) rfl
    · replace h := (if_neg hc).symm.trans h
      refine x_aloadn hX dX10_readTimes_32 rfl ?_
      refine x_aloadn hX dX10_readTimes_33 rfl ?_
      refine x_getI hX dX10_readTimes_34 fl_X10_68 rfl (st38 (gk hX)) ?_
      obtain ⟨M_6, eM_6, h⟩ := bnd_of h
      refine x_putI hX dX10_readTimes_37 fp_X10_163 rfl h1 (x_meq eM_6 ?_)
      refine x_aloadn hX dX10_readTimes_40 rfl ?_
      obtain ⟨r_7, M_8, er_7, h⟩ := cl2_of h
      refine x_callVi (t := 9) (As := []) (rest := []) hX dX10_readTimes_41 (c_X10_readSemicolon (gk hX) (gl hX) M_6 _ _ er_7) kX10_readSemicolon vX10_readSemicolon w_862 (st38 (gk hX)) rfl rfl rfl rfl (Nat.le_of_ble_eq_true rfl) z0 ?_
      obtain ⟨b_9, h⟩ := gz_of h
      cases h
      exact x_zret hX dX10_readTimes_44 b_9 rfl
theorem dX11_savedDistance_0 : decode cX11_savedDistance 0 = .ok (.iconst 0, 1) := by decide +kernel
theorem dX11_savedDistance_1 : decode cX11_savedDistance 1 = .ok (.istore_n 1, 1) := by decide +kernel
theorem dX11_savedDistance_2 : decode cX11_savedDistance 2 = .ok (.iconst 0, 1) := by decide +kernel
theorem dX11_savedDistance_3 : decode cX11_savedDistance 3 = .ok (.istore_n 2, 1) := by decide +kernel
theorem dX11_savedDistance_4 : decode cX11_savedDistance 4 = .ok (.iload_n 2, 1) := by decide +kernel
theorem dX11_savedDistance_5 : decode cX11_savedDistance 5 = .ok (.aload_n 0, 1) := by decide +kernel
theorem dX11_savedDistance_6 : decode cX11_savedDistance 6 = .ok (.getfield 10, 3) := by decide +kernel
theorem dX11_savedDistance_9 : decode cX11_savedDistance 9 = .ok (.getfield 159, 3) := by decide +kernel
theorem dX11_savedDistance_12 : decode cX11_savedDistance 12 = .ok (.getfield 168, 3) := by decide +kernel
theorem dX11_savedDistance_15 : decode cX11_savedDistance 15 = .ok (.if_icmp .ge 45, 3) := by decide +kernel
theorem dX11_savedDistance_18 : decode cX11_savedDistance 18 = .ok (.iload_n 1, 1) := by decide +kernel
theorem dX11_savedDistance_19 : decode cX11_savedDistance 19 = .ok (.aload_n 0, 1) := by decide +kernel
theorem dX11_savedDistance_20 : decode cX11_savedDistance 20 = .ok (.getfield 33, 3) := by decide +kernel
theorem dX11_savedDistance_23 : decode cX11_savedDistance 23 = .ok (.aload_n 0, 1) := by decide +kernel
theorem dX11_savedDistance_24 : decode cX11_savedDistance 24 = .ok (.getfield 10, 3) := by decide +kernel
theorem dX11_savedDistance_27 : decode cX11_savedDistance 27 = .ok (.aload_n 0, 1) := by decide +kernel
theorem dX11_savedDistance_28 : decode cX11_savedDistance 28 = .ok (.getfield 10, 3) := by decide +kernel
theorem dX11_savedDistance_31 : decode cX11_savedDistance 31 = .ok (.getfield 159, 3) := by decide +kernel
theorem dX11_savedDistance_34 : decode cX11_savedDistance 34 = .ok (.getfield 195, 3) := by decide +kernel
theorem dX11_savedDistance_37 : decode cX11_savedDistance 37 = .ok (.iload_n 2, 1) := by decide +kernel
theorem dX11_savedDistance_38 : decode cX11_savedDistance 38 = .ok (.iaload, 1) := by decide +kernel
theorem dX11_savedDistance_39 : decode cX11_savedDistance 39 = .ok (.aload_n 0, 1) := by decide +kernel
theorem dX11_savedDistance_40 : decode cX11_savedDistance 40 = .ok (.getfield 10, 3) := by decide +kernel
theorem dX11_savedDistance_43 : decode cX11_savedDistance 43 = .ok (.getfield 79, 3) := by decide +kernel
theorem dX11_savedDistance_46 : decode cX11_savedDistance 46 = .ok (.getfield 220, 3) := by decide +kernel
theorem dX11_savedDistance_49 : decode cX11_savedDistance 49 = .ok (.invokevirtual 251, 3) := by decide +kernel
theorem dX11_savedDistance_52 : decode cX11_savedDistance 52 = .ok (.isub, 1) := by decide +kernel
theorem dX11_savedDistance_53 : decode cX11_savedDistance 53 = .ok (.istore_n 1, 1) := by decide +kernel
theorem dX11_savedDistance_54 : decode cX11_savedDistance 54 = .ok (.iinc 2 1, 3) := by decide +kernel
theorem dX11_savedDistance_57 : decode cX11_savedDistance 57 = .ok (.goto (-53), 3) := by decide +kernel
theorem dX11_savedDistance_60 : decode cX11_savedDistance 60 = .ok (.iconst 0, 1) := by decide +kernel
theorem dX11_savedDistance_61 : decode cX11_savedDistance 61 = .ok (.istore_n 2, 1) := by decide +kernel
theorem dX11_savedDistance_62 : decode cX11_savedDistance 62 = .ok (.iload_n 2, 1) := by decide +kernel
theorem dX11_savedDistance_63 : decode cX11_savedDistance 63 = .ok (.aload_n 0, 1) := by decide +kernel
theorem dX11_savedDistance_64 : decode cX11_savedDistance 64 = .ok (.getfield 10, 3) := by decide +kernel
theorem dX11_savedDistance_67 : decode cX11_savedDistance 67 = .ok (.getfield 118, 3) := by decide +kernel
theorem dX11_savedDistance_70 : decode cX11_savedDistance 70 = .ok (.getfield 146, 3) := by decide +kernel
theorem dX11_savedDistance_73 : decode cX11_savedDistance 73 = .ok (.if_icmp .ge 52, 3) := by decide +kernel
theorem dX11_savedDistance_76 : decode cX11_savedDistance 76 = .ok (.aload_n 0, 1) := by decide +kernel
theorem dX11_savedDistance_77 : decode cX11_savedDistance 77 = .ok (.getfield 10, 3) := by decide +kernel
theorem dX11_savedDistance_80 : decode cX11_savedDistance 80 = .ok (.getfield 118, 3) := by decide +kernel
theorem dX11_savedDistance_83 : decode cX11_savedDistance 83 = .ok (.getfield 130, 3) := by decide +kernel
theorem dX11_savedDistance_86 : decode cX11_savedDistance 86 = .ok (.iload_n 2, 1) := by decide +kernel
theorem dX11_savedDistance_87 : decode cX11_savedDistance 87 = .ok (.iaload, 1) := by decide +kernel
theorem dX11_savedDistance_88 : decode cX11_savedDistance 88 = .ok (.iconst 1, 1) := by decide +kernel
theorem dX11_savedDistance_89 : decode cX11_savedDistance 89 = .ok (.if_icmp .ne 30, 3) := by decide +kernel
theorem dX11_savedDistance_92 : decode cX11_savedDistance 92 = .ok (.iload_n 1, 1) := by decide +kernel
theorem dX11_savedDistance_93 : decode cX11_savedDistance 93 = .ok (.aload_n 0, 1) := by decide +kernel
theorem dX11_savedDistance_94 : decode cX11_savedDistance 94 = .ok (.getfield 33, 3) := by decide +kernel
theorem dX11_savedDistance_97 : decode cX11_savedDistance 97 = .ok (.aload_n 0, 1) := by decide +kernel
theorem dX11_savedDistance_98 : decode cX11_savedDistance 98 = .ok (.getfield 10, 3) := by decide +kernel
theorem dX11_savedDistance_101 : decode cX11_savedDistance 101 = .ok (.iconst 1, 1) := by decide +kernel
theorem dX11_savedDistance_102 : decode cX11_savedDistance 102 = .ok (.iload_n 2, 1) := by decide +kernel
theorem dX11_savedDistance_103 : decode cX11_savedDistance 103 = .ok (.ishl, 1) := by decide +kernel
theorem dX11_savedDistance_104 : decode cX11_savedDistance 104 = .ok (.aload_n 0, 1) := by decide +kernel
theorem dX11_savedDistance_105 : decode cX11_savedDistance 105 = .ok (.getfield 10, 3) := by decide +kernel
theorem dX11_savedDistance_108 : decode cX11_savedDistance 108 = .ok (.getfield 79, 3) := by decide +kernel
theorem dX11_savedDistance_111 : decode cX11_savedDistance 111 = .ok (.getfield 220, 3) := by decide +kernel
theorem dX11_savedDistance_114 : decode cX11_savedDistance 114 = .ok (.invokevirtual 251, 3) := by decide +kernel
theorem dX11_savedDistance_117 : decode cX11_savedDistance 117 = .ok (.iadd, 1) := by decide +kernel
theorem dX11_savedDistance_118 : decode cX11_savedDistance 118 = .ok (.istore_n 1, 1) := by decide +kernel
theorem dX11_savedDistance_119 : decode cX11_savedDistance 119 = .ok (.iinc 2 1, 3) := by decide +kernel
theorem dX11_savedDistance_122 : decode cX11_savedDistance 122 = .ok (.goto (-60), 3) := by decide +kernel
theorem dX11_savedDistance_125 : decode cX11_savedDistance 125 = .ok (.iload_n 1, 1) := by decide +kernel
theorem dX11_savedDistance_126 : decode cX11_savedDistance 126 = .ok (.ireturn, 1) := by decide +kernel
noncomputable def s_X11_savedDistance_4  (x1 : Int) (x2 : Int) (M : Mem) : Option ((Int × Int × Mem) ⊕ ((Int × Mem) ⊕ (Int × Mem))) :=
  (if w32 x2 < w32 (M 17 0) then gi x2 8 (cl2 (f_X6_lengthFor 40 1 (M 18 (ix x2)) (M 2 5) M) (fun r_2 M_3 => bnd (x1 - r_2) (fun x1_4 => bnd (x2 + 1) (fun x2_5 => some (.inl (x1_4, x2_5, M_3)))))) else some (.inr (.inl (x1, M))))
set_option maxRecDepth 100000 in
set_option maxHeartbeats 4000000 in
theorem ts_X11_savedDistance_4 {X : Cxt} (hX : Gd X RX11 cX11_savedDistance 3 (some .int) 5)  (x1 : Int) (x2 : Int) (M : Mem) {Q : State → Prop} (o : (Int × Int × Mem) ⊕ ((Int × Mem) ⊕ (Int × Mem))) (h : s_X11_savedDistance_4 x1 x2 M = some o) (hP : ∀ y, o = .inl y → V X 0 0 Q 4 [some (vr (xG X) 0), some (vi y.1), some (vi y.2.1)] [] y.2.2) (hE : ∀ z, o = .inr (.inl z) → V X 0 0 Q 60 [some (vr (xG X) 0), some (vi z.1), none] [] z.2) (hR : ∀ q, o = .inr (.inr q) → Q = Qn X (some (vi q.1)) q.2) : V X 0 0 Q 4 [some (vr (xG X) 0), some (vi x1), some (vi x2)] [] M := by
  unfold s_X11_savedDistance_4 at h
  refine x_iloadn hX dX11_savedDistance_4 rfl ?_
  refine x_aloadn hX dX11_savedDistance_5 rfl ?_
  refine x_getRj (j := 1) hX dX11_savedDistance_6 fl_X11_10 rfl (st0 (gk hX)) rfl ?_
  refine x_getRj (j := 17) hX dX11_savedDistance_9 fl_X11_159 rfl (st1 (gk hX)) rfl ?_
  refine x_getI hX dX11_savedDistance_12 fl_X11_168 rfl (st17 (gk hX)) ?_
  refine x_icmp_ge (tgt := 60) hX dX11_savedDistance_15 (by decide) rfl rfl (fun hc => ?_) (fun hc => ?_)
  · replace h := (if_pos hc).symm.trans h
    refine x_iloadn hX dX11_savedDistance_18 rfl ?_
    refine x_aloadn hX dX11_savedDistance_19 rfl ?_
    refine x_getRj (j := 40) hX dX11_savedDistance_20 fl_X11_33 rfl (st0 (gk hX)) rfl ?_
    refine x_aloadn hX dX11_savedDistance_23 rfl ?_
    refine x_getRj (j := 1) hX dX11_savedDistance_24 fl_X11_10 rfl (st0 (gk hX)) rfl ?_
    refine x_aloadn hX dX11_savedDistance_27 rfl ?_
    refine x_getRj (j := 1) hX dX11_savedDistance_28 fl_X11_10 rfl (st0 (gk hX)) rfl ?_
    refine x_getRj (j := 17) hX dX11_savedDistance_31 fl_X11_159 rfl (st1 (gk hX)) rfl ?_
    refine x_getRj (j := 18) hX dX11_savedDistance_34 fl_X11_195 rfl (st17 (gk hX)) rfl ?_
    refine x_iloadn hX dX11_savedDistance_37 rfl ?_
    obtain ⟨b_1, h⟩ := gi_of h
    refine x_iald hX dX11_savedDistance_38 (st18 (gk hX)) b_1 rfl ?_
    refine x_aloadn hX dX11_savedDistance_39 rfl ?_
    refine x_getRj (j := 1) hX dX11_savedDistance_40 fl_X11_10 rfl (st0 (gk hX)) rfl ?_
    refine x_getRj (j := 2) hX dX11_savedDistance_43 fl_X11_79 rfl (st1 (gk hX)) rfl ?_
    refine x_getI hX dX11_savedDistance_46 fl_X11_220 rfl (st2 (gk hX)) ?_
    obtain ⟨r_2, M_3, er_2, h⟩ := cl2_of h
    refine x_callVi (t := 6) (As := [vr (xG X) 1, vi (M 18 (ix x2)), vi (M 2 5)]) (rest := [vi x1]) hX dX11_savedDistance_49 (c_X6_lengthFor (gk hX) (gl hX) (st40 (gk hX)) (st1 (gk hX)) (M 18 (ix x2)) (M 2 5) M _ _ er_2) kX6_lengthFor vX6_lengthFor w_604 (st40 (gk hX)) rfl rfl rfl rfl (Nat.le_of_ble_eq_true rfl) z0 ?_
    refine x_isub hX dX11_savedDistance_52 ?_
    obtain ⟨x1_4, ex1_4, h⟩ := bnd_of h
    refine x_istoren (ls' := [some (vr (xG X) 0), some (vi x1_4), some (vi x2)]) hX dX11_savedDistance_53 rfl ex1_4 rfl ?_
    obtain ⟨x2_5, ex2_5, h⟩ := bnd_of h
    refine x_iinc (ls' := [some (vr (xG X) 0), some (vi x1_4), some (vi x2_5)]) hX dX11_savedDistance_54 rfl rfl ex2_5 rfl ?_
    refine x_goto (tgt := 4) hX dX11_savedDistance_57 (by decide) ?_
    exact x_weak [true, true, true] rfl (hP (x1_4, x2_5, M_3) (Option.some.inj h).symm)
  · replace h := (if_neg hc).symm.trans h
    exact x_weak [true, true, false] rfl (hE (x1, M) (Option.some.inj h).symm)
noncomputable def j_X11_savedDistance_119_62   (x1 : Int) (x2 : Int) (M : Mem) : Option ((Int × Int × Mem) ⊕ ((Int × Mem) ⊕ (Int × Mem))) :=
  bnd (x2 + 1) (fun x2_11 => some (.inl (x1, x2_11, M)))
set_option maxRecDepth 100000 in
set_option maxHeartbeats 4000000 in
theorem tj_X11_savedDistance_119_62 {X : Cxt} (hX : Gd X RX11 cX11_savedDistance 3 (some .int) 5)   (x1 : Int) (x2 : Int) (M : Mem) {Q : State → Prop} (o : (Int × Int × Mem) ⊕ ((Int × Mem) ⊕ (Int × Mem))) (h : j_X11_savedDistance_119_62 x1 x2 M = some o) (hP : ∀ y, o = .inl y → V X 0 0 Q 62 [some (vr (xG X) 0), some (vi y.1), some (vi y.2.1)] [] y.2.2) (hE : ∀ z, o = .inr (.inl z) → V X 0 0 Q 125 [none, some (vi z.1), none] [] z.2) (hR : ∀ q, o = .inr (.inr q) → Q = Qn X (some (vi q.1)) q.2) : V X 0 0 Q 119 [some (vr (xG X) 0), some (vi x1), some (vi x2)] [] M := by
  unfold j_X11_savedDistance_119_62 at h
  obtain ⟨x2_11, ex2_11, h⟩ := bnd_of h
  refine x_iinc (ls' := [some (vr (xG X) 0), some (vi x1), some (vi x2_11)]) hX dX11_savedDistance_119 rfl rfl ex2_11 rfl ?_
  refine x_goto (tgt := 62) hX dX11_savedDistance_122 (by decide) ?_
  exact x_weak [true, true, true] rfl (hP (x1, x2_11, M) (Option.some.inj h).symm)
noncomputable def s_X11_savedDistance_62  (x1 : Int) (x2 : Int) (M : Mem) : Option ((Int × Int × Mem) ⊕ ((Int × Mem) ⊕ (Int × Mem))) :=
  (if w32 x2 < w32 (M 10 0) then gi x2 16 ((if w32 (M 12 (ix x2)) = 1 then cl2 (f_X6_lengthFor 40 1 (i_shl 1 x2) (M 2 5) M) (fun r_8 M_9 => bnd (x1 + r_8) (fun x1_10 => j_X11_savedDistance_119_62 x1_10 x2 M_9)) else j_X11_savedDistance_119_62 x1 x2 M)) else some (.inr (.inl (x1, M))))
set_option maxRecDepth 100000 in
set_option maxHeartbeats 4000000 in
theorem ts_X11_savedDistance_62 {X : Cxt} (hX : Gd X RX11 cX11_savedDistance 3 (some .int) 5)  (x1 : Int) (x2 : Int) (M : Mem) {Q : State → Prop} (o : (Int × Int × Mem) ⊕ ((Int × Mem) ⊕ (Int × Mem))) (h : s_X11_savedDistance_62 x1 x2 M = some o) (hP : ∀ y, o = .inl y → V X 0 0 Q 62 [some (vr (xG X) 0), some (vi y.1), some (vi y.2.1)] [] y.2.2) (hE : ∀ z, o = .inr (.inl z) → V X 0 0 Q 125 [none, some (vi z.1), none] [] z.2) (hR : ∀ q, o = .inr (.inr q) → Q = Qn X (some (vi q.1)) q.2) : V X 0 0 Q 62 [some (vr (xG X) 0), some (vi x1), some (vi x2)] [] M := by
  unfold s_X11_savedDistance_62 at h
  refine x_iloadn hX dX11_savedDistance_62 rfl ?_
  refine x_aloadn hX dX11_savedDistance_63 rfl ?_
  refine x_getRj (j := 1) hX dX11_savedDistance_64 fl_X11_10 rfl (st0 (gk hX)) rfl ?_
  refine x_getRj (j := 10) hX dX11_savedDistance_67 fl_X11_118 rfl (st1 (gk hX)) rfl ?_
  refine x_getI hX dX11_savedDistance_70 fl_X11_146 rfl (st10 (gk hX)) ?_
  refine x_icmp_ge (tgt := 125) hX dX11_savedDistance_73 (by decide) rfl rfl (fun hc => ?_) (fun hc => ?_)
  · replace h := (if_pos hc).symm.trans h
    refine x_aloadn hX dX11_savedDistance_76 rfl ?_
    refine x_getRj (j := 1) hX dX11_savedDistance_77 fl_X11_10 rfl (st0 (gk hX)) rfl ?_
    refine x_getRj (j := 10) hX dX11_savedDistance_80 fl_X11_118 rfl (st1 (gk hX)) rfl ?_
    refine x_getRj (j := 12) hX dX11_savedDistance_83 fl_X11_130 rfl (st10 (gk hX)) rfl ?_
    refine x_iloadn hX dX11_savedDistance_86 rfl ?_
    obtain ⟨b_7, h⟩ := gi_of h
    refine x_iald hX dX11_savedDistance_87 (st12 (gk hX)) b_7 rfl ?_
    refine x_iconst hX dX11_savedDistance_88 ?_
    refine x_icmp_ne (tgt := 119) hX dX11_savedDistance_89 (by decide) rfl cw_1 (fun hc => ?_) (fun hc => ?_)
    · replace h := (if_pos hc).symm.trans h
      refine x_iloadn hX dX11_savedDistance_92 rfl ?_
      refine x_aloadn hX dX11_savedDistance_93 rfl ?_
      refine x_getRj (j := 40) hX dX11_savedDistance_94 fl_X11_33 rfl (st0 (gk hX)) rfl ?_
      refine x_aloadn hX dX11_savedDistance_97 rfl ?_
      refine x_getRj (j := 1) hX dX11_savedDistance_98 fl_X11_10 rfl (st0 (gk hX)) rfl ?_
      refine x_iconst hX dX11_savedDistance_101 ?_
      refine x_iloadn hX dX11_savedDistance_102 rfl ?_
      refine x_ishl hX dX11_savedDistance_103 ?_
      refine x_aloadn hX dX11_savedDistance_104 rfl ?_
      refine x_getRj (j := 1) hX dX11_savedDistance_105 fl_X11_10 rfl (st0 (gk hX)) rfl ?_
      refine x_getRj (j := 2) hX dX11_savedDistance_108 fl_X11_79 rfl (st1 (gk hX)) rfl ?_
      refine x_getI hX dX11_savedDistance_111 fl_X11_220 rfl (st2 (gk hX)) ?_
      obtain ⟨r_8, M_9, er_8, h⟩ := cl2_of h
      refine x_callVi (t := 6) (As := [vr (xG X) 1, vi (i_shl 1 x2), vi (M 2 5)]) (rest := [vi x1]) hX dX11_savedDistance_114 (c_X6_lengthFor (gk hX) (gl hX) (st40 (gk hX)) (st1 (gk hX)) (i_shl 1 x2) (M 2 5) M _ _ er_8) kX6_lengthFor vX6_lengthFor w_604 (st40 (gk hX)) rfl rfl rfl rfl (Nat.le_of_ble_eq_true rfl) z0 ?_
      refine x_iadd hX dX11_savedDistance_117 ?_
      obtain ⟨x1_10, ex1_10, h⟩ := bnd_of h
      refine x_istoren (ls' := [some (vr (xG X) 0), some (vi x1_10), some (vi x2)]) hX dX11_savedDistance_118 rfl ex1_10 rfl ?_
      exact x_weak [true, true, true] rfl (tj_X11_savedDistance_119_62 hX x1_10 x2 M_9 o h hP hE hR)
    · replace h := (if_neg hc).symm.trans h
      exact x_weak [true, true, true] rfl (tj_X11_savedDistance_119_62 hX x1 x2 M o h hP hE hR)
  · replace h := (if_neg hc).symm.trans h
    exact x_weak [false, true, false] rfl (hE (x1, M) (Option.some.inj h).symm)
noncomputable def f_X11_savedDistance  (M : Mem) : Option (Int × Mem) :=
  lpb (wh (fun x => s_X11_savedDistance_4 x.1 x.2.1 x.2.2) (0, 0, M)) (fun z_6 => lpb (wh (fun x => s_X11_savedDistance_62 x.1 x.2.1 x.2.2) (z_6.1, 0, z_6.2)) (fun z_12 => some (z_12.1, z_12.2)) (fun q => some q)) (fun q => some q)
set_option maxRecDepth 100000 in
set_option maxHeartbeats 4000000 in
theorem c_X11_savedDistance {l : Launch} {G : Gx} (hG : GOK G) (hl : l.stackTraces = false)  (M : Mem) (r : Int) (Mr : Mem) (h : f_X11_savedDistance M = some (r, Mr)) : Cn l G mX11_savedDistance 5 [vr G 0] M (some (vi r)) Mr := by
  refine Cn_of2 (ls := [some (vr G 0), none, none]) hG hl kX11_savedDistance rfl (Nat.le_of_ble_eq_true rfl) rfl rfl rfl rfl rfl (fun X eG el hX => ?_)
  subst eG; subst el
  unfold f_X11_savedDistance at h
  refine x_iconst hX dX11_savedDistance_0 ?_
  refine x_istoren (ls' := [some (vr (xG X) 0), some (vi 0), none]) hX dX11_savedDistance_1 rfl rfl rfl ?_
  refine x_iconst hX dX11_savedDistance_2 ?_
  refine x_istoren (ls' := [some (vr (xG X) 0), some (vi 0), some (vi 0)]) hX dX11_savedDistance_3 rfl rfl rfl ?_
  refine x_weak (ls' := [some (vr (xG X) 0), some (vi 0), some (vi 0)]) [true, true, true] rfl ?_
  refine lp_use (x := (0, 0, M)) (P := fun x => V X 0 0 (Qn X (some (vi r)) Mr) 4 [some (vr (xG X) 0), some (vi x.1), some (vi x.2.1)] [] x.2.2) (PE := fun z_6 => V X 0 0 (Qn X (some (vi r)) Mr) 60 [some (vr (xG X) 0), some (vi z_6.1), none] [] z_6.2) (PR := fun q => (Qn X (some (vi r)) Mr) = Qn X (some (vi q.1)) q.2) h (fun x o hh hP hE hR => ts_X11_savedDistance_4 hX x.1 x.2.1 x.2.2 o hh hP hE hR) (fun z_6 h => ?_) (fun q h => ?_)
  · show V X 0 0 (Qn X (some (vi r)) Mr) 60 [some (vr (xG X) 0), some (vi z_6.1), none] [] z_6.2
    refine x_iconst hX dX11_savedDistance_60 ?_
    refine x_istoren (ls' := [some (vr (xG X) 0), some (vi z_6.1), some (vi 0)]) hX dX11_savedDistance_61 rfl rfl rfl ?_
    refine x_weak (ls' := [some (vr (xG X) 0), some (vi z_6.1), some (vi 0)]) [true, true, true] rfl ?_
    refine lp_use (x := (z_6.1, 0, z_6.2)) (P := fun x => V X 0 0 (Qn X (some (vi r)) Mr) 62 [some (vr (xG X) 0), some (vi x.1), some (vi x.2.1)] [] x.2.2) (PE := fun z_12 => V X 0 0 (Qn X (some (vi r)) Mr) 125 [none, some (vi z_12.1), none] [] z_12.2) (PR := fun q => (Qn X (some (vi r)) Mr) = Qn X (some (vi q.1)) q.2) h (fun x o hh hP hE hR => ts_X11_savedDistance_62 hX x.1 x.2.1 x.2.2 o hh hP hE hR) (fun z_12 h => ?_) (fun q h => ?_)
    · show V X 0 0 (Qn X (some (vi r)) Mr) 125 [none, some (vi z_12.1), none] [] z_12.2
      refine x_iloadn hX dX11_savedDistance_125 rfl ?_
      cases h
      exact x_iret hX dX11_savedDistance_126 rfl
    · cases h; rfl
  · cases h; rfl
theorem dX4_measureBatches_0 : decode cX4_measureBatches 0 = .ok (.iconst 0, 1) := by decide +kernel
theorem dX4_measureBatches_1 : decode cX4_measureBatches 1 = .ok (.istore_n 2, 1) := by decide +kernel
theorem dX4_measureBatches_2 : decode cX4_measureBatches 2 = .ok (.iload_n 2, 1) := by decide +kernel
theorem dX4_measureBatches_3 : decode cX4_measureBatches 3 = .ok (.aload_n 1, 1) := by decide +kernel
theorem dX4_measureBatches_4 : decode cX4_measureBatches 4 = .ok (.getfield 45, 3) := by decide +kernel
theorem dX4_measureBatches_7 : decode cX4_measureBatches 7 = .ok (.getfield 61, 3) := by decide +kernel
theorem dX4_measureBatches_10 : decode cX4_measureBatches 10 = .ok (.if_icmp .ge 39, 3) := by decide +kernel
theorem dX4_measureBatches_13 : decode cX4_measureBatches 13 = .ok (.aload_n 0, 1) := by decide +kernel
theorem dX4_measureBatches_14 : decode cX4_measureBatches 14 = .ok (.getfield 18, 3) := by decide +kernel
theorem dX4_measureBatches_17 : decode cX4_measureBatches 17 = .ok (.iload_n 2, 1) := by decide +kernel
theorem dX4_measureBatches_18 : decode cX4_measureBatches 18 = .ok (.aload_n 0, 1) := by decide +kernel
theorem dX4_measureBatches_19 : decode cX4_measureBatches 19 = .ok (.getfield 12, 3) := by decide +kernel
theorem dX4_measureBatches_22 : decode cX4_measureBatches 22 = .ok (.aload_n 1, 1) := by decide +kernel
theorem dX4_measureBatches_23 : decode cX4_measureBatches 23 = .ok (.aload_n 1, 1) := by decide +kernel
theorem dX4_measureBatches_24 : decode cX4_measureBatches 24 = .ok (.getfield 45, 3) := by decide +kernel
theorem dX4_measureBatches_27 : decode cX4_measureBatches 27 = .ok (.getfield 62, 3) := by decide +kernel
theorem dX4_measureBatches_30 : decode cX4_measureBatches 30 = .ok (.iload_n 2, 1) := by decide +kernel
theorem dX4_measureBatches_31 : decode cX4_measureBatches 31 = .ok (.iaload, 1) := by decide +kernel
theorem dX4_measureBatches_32 : decode cX4_measureBatches 32 = .ok (.aload_n 1, 1) := by decide +kernel
theorem dX4_measureBatches_33 : decode cX4_measureBatches 33 = .ok (.getfield 65, 3) := by decide +kernel
theorem dX4_measureBatches_36 : decode cX4_measureBatches 36 = .ok (.getfield 69, 3) := by decide +kernel
theorem dX4_measureBatches_39 : decode cX4_measureBatches 39 = .ok (.invokevirtual 74, 3) := by decide +kernel
theorem dX4_measureBatches_42 : decode cX4_measureBatches 42 = .ok (.iastore, 1) := by decide +kernel
theorem dX4_measureBatches_43 : decode cX4_measureBatches 43 = .ok (.iinc 2 1, 3) := by decide +kernel
theorem dX4_measureBatches_46 : decode cX4_measureBatches 46 = .ok (.goto (-44), 3) := by decide +kernel
theorem dX4_measureBatches_49 : decode cX4_measureBatches 49 = .ok (.return_, 1) := by decide +kernel
noncomputable def s_X4_measureBatches_2 (a1 : Nat) (x2 : Int) (M : Mem) : Option ((Int × Mem) ⊕ ((Mem) ⊕ (Mem))) :=
  (if w32 x2 < w32 (M (a1 + 16) 0) then gi x2 8 (cl2 (f_X6_lengthFor 87 a1 (M (a1 + 16 + 1) (ix x2)) (M (a1 + 1) 5) M) (fun r_2 M_3 => gi x2 8 (bnd (upd2 M_3 96 (ix x2) r_2) (fun M_4 => bnd (x2 + 1) (fun x2_6 => some (.inl (x2_6, M_4))))))) else some (.inr (.inl M)))
set_option maxRecDepth 100000 in
set_option maxHeartbeats 4000000 in
theorem ts_X4_measureBatches_2 {X : Cxt} (hX : Gd X RX4 cX4_measureBatches 3 (none) 5) {a1 : Nat} (h1 : at_ (xG X) a1 11 0) (x2 : Int) (M : Mem) {Q : State → Prop} (o : (Int × Mem) ⊕ ((Mem) ⊕ (Mem))) (h : s_X4_measureBatches_2 a1 x2 M = some o) (hP : ∀ y, o = .inl y → V X 0 0 Q 2 [some (vr (xG X) 86), some (vr (xG X) a1), some (vi y.1)] [] y.2) (hE : ∀ z, o = .inr (.inl z) → V X 0 0 Q 49 [none, none, none] [] z) (hR : ∀ q, o = .inr (.inr q) → Q = Qn X none q) : V X 0 0 Q 2 [some (vr (xG X) 86), some (vr (xG X) a1), some (vi x2)] [] M := by
  unfold s_X4_measureBatches_2 at h
  refine x_iloadn hX dX4_measureBatches_2 rfl ?_
  refine x_aloadn hX dX4_measureBatches_3 rfl ?_
  refine x_getRj (j := a1 + 16) hX dX4_measureBatches_4 fl_X4_45 rfl h1 rfl ?_
  refine x_getI hX dX4_measureBatches_7 fl_X4_61 rfl (fo_1_3 (gk hX) h1) ?_
  refine x_icmp_ge (tgt := 49) hX dX4_measureBatches_10 (by decide) rfl rfl (fun hc => ?_) (fun hc => ?_)
  · replace h := (if_pos hc).symm.trans h
    refine x_aloadn hX dX4_measureBatches_13 rfl ?_
    refine x_getRj (j := 96) hX dX4_measureBatches_14 fl_X4_18 rfl (st86 (gk hX)) rfl ?_
    refine x_iloadn hX dX4_measureBatches_17 rfl ?_
    refine x_aloadn hX dX4_measureBatches_18 rfl ?_
    refine x_getRj (j := 87) hX dX4_measureBatches_19 fl_X4_12 rfl (st86 (gk hX)) rfl ?_
    refine x_aloadn hX dX4_measureBatches_22 rfl ?_
    refine x_aloadn hX dX4_measureBatches_23 rfl ?_
    refine x_getRj (j := a1 + 16) hX dX4_measureBatches_24 fl_X4_45 rfl h1 rfl ?_
    refine x_getRj (j := a1 + 16 + 1) hX dX4_measureBatches_27 fl_X4_62 rfl (fo_1_3 (gk hX) h1) rfl ?_
    refine x_iloadn hX dX4_measureBatches_30 rfl ?_
    obtain ⟨b_1, h⟩ := gi_of h
    refine x_iald hX dX4_measureBatches_31 (fo_0_1 (gk hX) (fo_1_3 (gk hX) h1)) b_1 rfl ?_
    refine x_aloadn hX dX4_measureBatches_32 rfl ?_
    refine x_getRj (j := a1 + 1) hX dX4_measureBatches_33 fl_X4_65 rfl h1 rfl ?_
    refine x_getI hX dX4_measureBatches_36 fl_X4_69 rfl (fo_1_0 (gk hX) h1) ?_
    obtain ⟨r_2, M_3, er_2, h⟩ := cl2_of h
    refine x_callVi (t := 6) (As := [vr (xG X) a1, vi (M (a1 + 16 + 1) (ix x2)), vi (M (a1 + 1) 5)]) (rest := [vi x2, vr (xG X) 96]) hX dX4_measureBatches_39 (c_X6_lengthFor (gk hX) (gl hX) (st87 (gk hX)) h1 (M (a1 + 16 + 1) (ix x2)) (M (a1 + 1) 5) M _ _ er_2) kX6_lengthFor vX6_lengthFor w_1318 (st87 (gk hX)) rfl rfl rfl rfl (Nat.le_of_ble_eq_true rfl) z0 ?_
    obtain ⟨b_5, h⟩ := gi_of h
    obtain ⟨M_4, eM_4, h⟩ := bnd_of h
    refine x_iast hX dX4_measureBatches_42 (st96 (gk hX)) b_5 rfl (x_meq eM_4 ?_)
    obtain ⟨x2_6, ex2_6, h⟩ := bnd_of h
    refine x_iinc (ls' := [some (vr (xG X) 86), some (vr (xG X) a1), some (vi x2_6)]) hX dX4_measureBatches_43 rfl rfl ex2_6 rfl ?_
    refine x_goto (tgt := 2) hX dX4_measureBatches_46 (by decide) ?_
    exact x_weak [true, true, true] rfl (hP (x2_6, M_4) (Option.some.inj h).symm)
  · replace h := (if_neg hc).symm.trans h
    exact x_weak [false, false, false] rfl (hE M (Option.some.inj h).symm)
noncomputable def f_X4_measureBatches (a1 : Nat) (M : Mem) : Option (Mem) :=
  lpb (wh (fun x => s_X4_measureBatches_2 a1 x.1 x.2) (0, M)) (fun z_7 => some z_7) (fun q => some q)
set_option maxRecDepth 100000 in
set_option maxHeartbeats 4000000 in
theorem c_X4_measureBatches {l : Launch} {G : Gx} (hG : GOK G) (hl : l.stackTraces = false) {a1 : Nat} (h1 : at_ G a1 11 0) (M : Mem) (Mr : Mem) (h : f_X4_measureBatches a1 M = some Mr) : Cn l G mX4_measureBatches 5 [vr G 86, vr G a1] M none Mr := by
  refine Cn_of2 (ls := [some (vr G 86), some (vr G a1), none]) hG hl kX4_measureBatches rfl (Nat.le_of_ble_eq_true rfl) rfl rfl rfl rfl rfl (fun X eG el hX => ?_)
  subst eG; subst el
  unfold f_X4_measureBatches at h
  refine x_iconst hX dX4_measureBatches_0 ?_
  refine x_istoren (ls' := [some (vr (xG X) 86), some (vr (xG X) a1), some (vi 0)]) hX dX4_measureBatches_1 rfl rfl rfl ?_
  refine x_weak (ls' := [some (vr (xG X) 86), some (vr (xG X) a1), some (vi 0)]) [true, true, true] rfl ?_
  refine lp_use (x := (0, M)) (P := fun x => V X 0 0 (Qn X none Mr) 2 [some (vr (xG X) 86), some (vr (xG X) a1), some (vi x.1)] [] x.2) (PE := fun z_7 => V X 0 0 (Qn X none Mr) 49 [none, none, none] [] z_7) (PR := fun q => (Qn X none Mr) = Qn X none q) h (fun x o hh hP hE hR => ts_X4_measureBatches_2 hX h1 x.1 x.2 o hh hP hE hR) (fun z_7 h => ?_) (fun q h => ?_)
  · show V X 0 0 (Qn X none Mr) 49 [none, none, none] [] z_7
    cases h
    exact x_vret hX dX4_measureBatches_49 rfl
  · cases h; rfl
theorem dX4_tryMoves_0 : decode cX4_tryMoves 0 = .ok (.aload_n 1, 1) := by decide +kernel
theorem dX4_tryMoves_1 : decode cX4_tryMoves 1 = .ok (.getfield 45, 3) := by decide +kernel
theorem dX4_tryMoves_4 : decode cX4_tryMoves 4 = .ok (.iload_n 2, 1) := by decide +kernel
theorem dX4_tryMoves_5 : decode cX4_tryMoves 5 = .ok (.invokevirtual 78, 3) := by decide +kernel
theorem dX4_tryMoves_8 : decode cX4_tryMoves 8 = .ok (.istore 5, 2) := by decide +kernel
theorem dX4_tryMoves_10 : decode cX4_tryMoves 10 = .ok (.iload 5, 2) := by decide +kernel
theorem dX4_tryMoves_12 : decode cX4_tryMoves 12 = .ok (.iconst (-1), 1) := by decide +kernel
theorem dX4_tryMoves_13 : decode cX4_tryMoves 13 = .ok (.if_icmp .ne 4, 3) := by decide +kernel
theorem dX4_tryMoves_16 : decode cX4_tryMoves 16 = .ok (.return_, 1) := by decide +kernel
theorem dX4_tryMoves_17 : decode cX4_tryMoves 17 = .ok (.aload_n 1, 1) := by decide +kernel
theorem dX4_tryMoves_18 : decode cX4_tryMoves 18 = .ok (.getfield 45, 3) := by decide +kernel
theorem dX4_tryMoves_21 : decode cX4_tryMoves 21 = .ok (.getfield 62, 3) := by decide +kernel
theorem dX4_tryMoves_24 : decode cX4_tryMoves 24 = .ok (.iload 5, 2) := by decide +kernel
theorem dX4_tryMoves_26 : decode cX4_tryMoves 26 = .ok (.iaload, 1) := by decide +kernel
theorem dX4_tryMoves_27 : decode cX4_tryMoves 27 = .ok (.iconst 1, 1) := by decide +kernel
theorem dX4_tryMoves_28 : decode cX4_tryMoves 28 = .ok (.iload_n 2, 1) := by decide +kernel
theorem dX4_tryMoves_29 : decode cX4_tryMoves 29 = .ok (.ishl, 1) := by decide +kernel
theorem dX4_tryMoves_30 : decode cX4_tryMoves 30 = .ok (.iconst (-1), 1) := by decide +kernel
theorem dX4_tryMoves_31 : decode cX4_tryMoves 31 = .ok (.ixor, 1) := by decide +kernel
theorem dX4_tryMoves_32 : decode cX4_tryMoves 32 = .ok (.iand, 1) := by decide +kernel
theorem dX4_tryMoves_33 : decode cX4_tryMoves 33 = .ok (.istore 6, 2) := by decide +kernel
theorem dX4_tryMoves_35 : decode cX4_tryMoves 35 = .ok (.aload_n 0, 1) := by decide +kernel
theorem dX4_tryMoves_36 : decode cX4_tryMoves 36 = .ok (.getfield 18, 3) := by decide +kernel
theorem dX4_tryMoves_39 : decode cX4_tryMoves 39 = .ok (.iload 5, 2) := by decide +kernel
theorem dX4_tryMoves_41 : decode cX4_tryMoves 41 = .ok (.iaload, 1) := by decide +kernel
theorem dX4_tryMoves_42 : decode cX4_tryMoves 42 = .ok (.aload_n 0, 1) := by decide +kernel
theorem dX4_tryMoves_43 : decode cX4_tryMoves 43 = .ok (.getfield 12, 3) := by decide +kernel
theorem dX4_tryMoves_46 : decode cX4_tryMoves 46 = .ok (.aload_n 1, 1) := by decide +kernel
theorem dX4_tryMoves_47 : decode cX4_tryMoves 47 = .ok (.iload 6, 2) := by decide +kernel
theorem dX4_tryMoves_49 : decode cX4_tryMoves 49 = .ok (.aload_n 1, 1) := by decide +kernel
theorem dX4_tryMoves_50 : decode cX4_tryMoves 50 = .ok (.getfield 65, 3) := by decide +kernel
theorem dX4_tryMoves_53 : decode cX4_tryMoves 53 = .ok (.getfield 69, 3) := by decide +kernel
theorem dX4_tryMoves_56 : decode cX4_tryMoves 56 = .ok (.invokevirtual 74, 3) := by decide +kernel
theorem dX4_tryMoves_59 : decode cX4_tryMoves 59 = .ok (.isub, 1) := by decide +kernel
theorem dX4_tryMoves_60 : decode cX4_tryMoves 60 = .ok (.istore 7, 2) := by decide +kernel
theorem dX4_tryMoves_62 : decode cX4_tryMoves 62 = .ok (.iconst 0, 1) := by decide +kernel
theorem dX4_tryMoves_63 : decode cX4_tryMoves 63 = .ok (.istore 8, 2) := by decide +kernel
theorem dX4_tryMoves_65 : decode cX4_tryMoves 65 = .ok (.iload 8, 2) := by decide +kernel
theorem dX4_tryMoves_67 : decode cX4_tryMoves 67 = .ok (.aload_n 1, 1) := by decide +kernel
theorem dX4_tryMoves_68 : decode cX4_tryMoves 68 = .ok (.getfield 45, 3) := by decide +kernel
theorem dX4_tryMoves_71 : decode cX4_tryMoves 71 = .ok (.getfield 61, 3) := by decide +kernel
theorem dX4_tryMoves_74 : decode cX4_tryMoves 74 = .ok (.if_icmp .ge 103, 3) := by decide +kernel
theorem dX4_tryMoves_77 : decode cX4_tryMoves 77 = .ok (.aload_n 1, 1) := by decide +kernel
theorem dX4_tryMoves_78 : decode cX4_tryMoves 78 = .ok (.getfield 45, 3) := by decide +kernel
theorem dX4_tryMoves_81 : decode cX4_tryMoves 81 = .ok (.getfield 62, 3) := by decide +kernel
theorem dX4_tryMoves_84 : decode cX4_tryMoves 84 = .ok (.iload 8, 2) := by decide +kernel
theorem dX4_tryMoves_86 : decode cX4_tryMoves 86 = .ok (.iaload, 1) := by decide +kernel
theorem dX4_tryMoves_87 : decode cX4_tryMoves 87 = .ok (.iconst 1, 1) := by decide +kernel
theorem dX4_tryMoves_88 : decode cX4_tryMoves 88 = .ok (.iload_n 2, 1) := by decide +kernel
theorem dX4_tryMoves_89 : decode cX4_tryMoves 89 = .ok (.ishl, 1) := by decide +kernel
theorem dX4_tryMoves_90 : decode cX4_tryMoves 90 = .ok (.ior, 1) := by decide +kernel
theorem dX4_tryMoves_91 : decode cX4_tryMoves 91 = .ok (.istore 9, 2) := by decide +kernel
theorem dX4_tryMoves_93 : decode cX4_tryMoves 93 = .ok (.iload 9, 2) := by decide +kernel
theorem dX4_tryMoves_95 : decode cX4_tryMoves 95 = .ok (.invokestatic 82, 3) := by decide +kernel
theorem dX4_tryMoves_98 : decode cX4_tryMoves 98 = .ok (.iload_n 3, 1) := by decide +kernel
theorem dX4_tryMoves_99 : decode cX4_tryMoves 99 = .ok (.if_icmp .gt 18, 3) := by decide +kernel
theorem dX4_tryMoves_102 : decode cX4_tryMoves 102 = .ok (.aload_n 1, 1) := by decide +kernel
theorem dX4_tryMoves_103 : decode cX4_tryMoves 103 = .ok (.iload 9, 2) := by decide +kernel
theorem dX4_tryMoves_105 : decode cX4_tryMoves 105 = .ok (.invokevirtual 87, 3) := by decide +kernel
theorem dX4_tryMoves_108 : decode cX4_tryMoves 108 = .ok (.iload 4, 2) := by decide +kernel
theorem dX4_tryMoves_110 : decode cX4_tryMoves 110 = .ok (.if_icmp .gt 7, 3) := by decide +kernel
theorem dX4_tryMoves_113 : decode cX4_tryMoves 113 = .ok (.iconst 1, 1) := by decide +kernel
theorem dX4_tryMoves_114 : decode cX4_tryMoves 114 = .ok (.goto 4, 3) := by decide +kernel
theorem dX4_tryMoves_117 : decode cX4_tryMoves 117 = .ok (.iconst 0, 1) := by decide +kernel
theorem dX4_tryMoves_118 : decode cX4_tryMoves 118 = .ok (.istore 10, 2) := by decide +kernel
theorem dX4_tryMoves_120 : decode cX4_tryMoves 120 = .ok (.iload 8, 2) := by decide +kernel
theorem dX4_tryMoves_122 : decode cX4_tryMoves 122 = .ok (.iload 5, 2) := by decide +kernel
theorem dX4_tryMoves_124 : decode cX4_tryMoves 124 = .ok (.if_icmp .eq 47, 3) := by decide +kernel
theorem dX4_tryMoves_127 : decode cX4_tryMoves 127 = .ok (.iload 10, 2) := by decide +kernel
theorem dX4_tryMoves_129 : decode cX4_tryMoves 129 = .ok (.ifCond .eq 42, 3) := by decide +kernel
theorem dX4_tryMoves_132 : decode cX4_tryMoves 132 = .ok (.aload_n 0, 1) := by decide +kernel
theorem dX4_tryMoves_133 : decode cX4_tryMoves 133 = .ok (.getfield 12, 3) := by decide +kernel
theorem dX4_tryMoves_136 : decode cX4_tryMoves 136 = .ok (.aload_n 1, 1) := by decide +kernel
theorem dX4_tryMoves_137 : decode cX4_tryMoves 137 = .ok (.iload 9, 2) := by decide +kernel
theorem dX4_tryMoves_139 : decode cX4_tryMoves 139 = .ok (.aload_n 1, 1) := by decide +kernel
theorem dX4_tryMoves_140 : decode cX4_tryMoves 140 = .ok (.getfield 65, 3) := by decide +kernel
theorem dX4_tryMoves_143 : decode cX4_tryMoves 143 = .ok (.getfield 69, 3) := by decide +kernel
theorem dX4_tryMoves_146 : decode cX4_tryMoves 146 = .ok (.invokevirtual 74, 3) := by decide +kernel
theorem dX4_tryMoves_149 : decode cX4_tryMoves 149 = .ok (.aload_n 0, 1) := by decide +kernel
theorem dX4_tryMoves_150 : decode cX4_tryMoves 150 = .ok (.getfield 18, 3) := by decide +kernel
theorem dX4_tryMoves_153 : decode cX4_tryMoves 153 = .ok (.iload 8, 2) := by decide +kernel
theorem dX4_tryMoves_155 : decode cX4_tryMoves 155 = .ok (.iaload, 1) := by decide +kernel
theorem dX4_tryMoves_156 : decode cX4_tryMoves 156 = .ok (.isub, 1) := by decide +kernel
theorem dX4_tryMoves_157 : decode cX4_tryMoves 157 = .ok (.istore 11, 2) := by decide +kernel
theorem dX4_tryMoves_159 : decode cX4_tryMoves 159 = .ok (.aload_n 0, 1) := by decide +kernel
theorem dX4_tryMoves_160 : decode cX4_tryMoves 160 = .ok (.iload 7, 2) := by decide +kernel
theorem dX4_tryMoves_162 : decode cX4_tryMoves 162 = .ok (.iload 11, 2) := by decide +kernel
theorem dX4_tryMoves_164 : decode cX4_tryMoves 164 = .ok (.isub, 1) := by decide +kernel
theorem dX4_tryMoves_165 : decode cX4_tryMoves 165 = .ok (.iload_n 2, 1) := by decide +kernel
theorem dX4_tryMoves_166 : decode cX4_tryMoves 166 = .ok (.iload 8, 2) := by decide +kernel
theorem dX4_tryMoves_168 : decode cX4_tryMoves 168 = .ok (.invokevirtual 90, 3) := by decide +kernel
theorem dX4_tryMoves_171 : decode cX4_tryMoves 171 = .ok (.iinc 8 1, 3) := by decide +kernel
theorem dX4_tryMoves_174 : decode cX4_tryMoves 174 = .ok (.goto (-109), 3) := by decide +kernel
theorem dX4_tryMoves_177 : decode cX4_tryMoves 177 = .ok (.return_, 1) := by decide +kernel
noncomputable def j_X4_tryMoves_171_65 (a1 : Nat)  (x2 : Int) (x3 : Int) (x4 : Int) (x5 : Int) (x7 : Int) (x8 : Int) (M : Mem) : Option ((Int × Mem) ⊕ ((Mem) ⊕ (Mem))) :=
  bnd (x8 + 1) (fun x8_13 => some (.inl (x8_13, M)))
set_option maxRecDepth 100000 in
set_option maxHeartbeats 4000000 in
theorem tj_X4_tryMoves_171_65 {X : Cxt} (hX : Gd X RX4 cX4_tryMoves 12 (none) 5) {a1 : Nat} (h1 : at_ (xG X) a1 11 0)  (x2 : Int) (x3 : Int) (x4 : Int) (x5 : Int) (x7 : Int) (x8 : Int) (M : Mem) {Q : State → Prop} (o : (Int × Mem) ⊕ ((Mem) ⊕ (Mem))) (h : j_X4_tryMoves_171_65 a1 x2 x3 x4 x5 x7 x8 M = some o) (hP : ∀ y, o = .inl y → V X 0 0 Q 65 [some (vr (xG X) 86), some (vr (xG X) a1), some (vi x2), some (vi x3), some (vi x4), some (vi x5), none, some (vi x7), some (vi y.1), none, none, none] [] y.2) (hE : ∀ z, o = .inr (.inl z) → V X 0 0 Q 177 [none, none, none, none, none, none, none, none, none, none, none, none] [] z) (hR : ∀ q, o = .inr (.inr q) → Q = Qn X none q) : V X 0 0 Q 171 [some (vr (xG X) 86), some (vr (xG X) a1), some (vi x2), some (vi x3), some (vi x4), some (vi x5), none, some (vi x7), some (vi x8), none, none, none] [] M := by
  unfold j_X4_tryMoves_171_65 at h
  obtain ⟨x8_13, ex8_13, h⟩ := bnd_of h
  refine x_iinc (ls' := [some (vr (xG X) 86), some (vr (xG X) a1), some (vi x2), some (vi x3), some (vi x4), some (vi x5), none, some (vi x7), some (vi x8_13), none, none, none]) hX dX4_tryMoves_171 rfl rfl ex8_13 rfl ?_
  refine x_goto (tgt := 65) hX dX4_tryMoves_174 (by decide) ?_
  exact x_weak [true, true, true, true, true, true, false, true, true, false, false, false] rfl (hP (x8_13, M) (Option.some.inj h).symm)
noncomputable def j_X4_tryMoves_118_65 (a1 : Nat)  (x2 : Int) (x3 : Int) (x4 : Int) (x5 : Int) (x7 : Int) (x8 : Int) (x9 : Int) (y0 : Int) (M : Mem) : Option ((Int × Mem) ⊕ ((Mem) ⊕ (Mem))) :=
  (if w32 x8 = w32 x5 then j_X4_tryMoves_171_65 a1 x2 x3 x4 x5 x7 x8 M else (if w32 y0 = 0 then j_X4_tryMoves_171_65 a1 x2 x3 x4 x5 x7 x8 M else cl2 (f_X6_lengthFor 87 a1 x9 (M (a1 + 1) 5) M) (fun r_14 M_15 => gi x8 8 (bnd (r_14 - (M_15 96 (ix x8))) (fun x11_17 => cl1 (f_X4_keepBetter (x7 - x11_17) x2 x8 M_15) (fun M_19 => j_X4_tryMoves_171_65 a1 x2 x3 x4 x5 x7 x8 M_19))))))
set_option maxRecDepth 100000 in
set_option maxHeartbeats 4000000 in
theorem tj_X4_tryMoves_118_65 {X : Cxt} (hX : Gd X RX4 cX4_tryMoves 12 (none) 5) {a1 : Nat} (h1 : at_ (xG X) a1 11 0)  (x2 : Int) (x3 : Int) (x4 : Int) (x5 : Int) (x7 : Int) (x8 : Int) (x9 : Int) (y0 : Int) (M : Mem) {Q : State → Prop} (o : (Int × Mem) ⊕ ((Mem) ⊕ (Mem))) (h : j_X4_tryMoves_118_65 a1 x2 x3 x4 x5 x7 x8 x9 y0 M = some o) (hP : ∀ y, o = .inl y → V X 0 0 Q 65 [some (vr (xG X) 86), some (vr (xG X) a1), some (vi x2), some (vi x3), some (vi x4), some (vi x5), none, some (vi x7), some (vi y.1), none, none, none] [] y.2) (hE : ∀ z, o = .inr (.inl z) → V X 0 0 Q 177 [none, none, none, none, none, none, none, none, none, none, none, none] [] z) (hR : ∀ q, o = .inr (.inr q) → Q = Qn X none q) : V X 0 0 Q 118 [some (vr (xG X) 86), some (vr (xG X) a1), some (vi x2), some (vi x3), some (vi x4), some (vi x5), none, some (vi x7), some (vi x8), some (vi x9), none, none] [vi y0] M := by
  unfold j_X4_tryMoves_118_65 at h
  refine x_istore (ls' := [some (vr (xG X) 86), some (vr (xG X) a1), some (vi x2), some (vi x3), some (vi x4), some (vi x5), none, some (vi x7), some (vi x8), some (vi x9), some (vi y0), none]) hX dX4_tryMoves_118 rfl rfl rfl ?_
  refine x_iload hX dX4_tryMoves_120 rfl ?_
  refine x_iload hX dX4_tryMoves_122 rfl ?_
  refine x_icmp_eq (tgt := 171) hX dX4_tryMoves_124 (by decide) rfl rfl (fun hc => ?_) (fun hc => ?_)
  · replace h := (if_pos hc).symm.trans h
    exact x_weak [true, true, true, true, true, true, false, true, true, false, false, false] rfl (tj_X4_tryMoves_171_65 hX h1 x2 x3 x4 x5 x7 x8 M o h hP hE hR)
  · replace h := (if_neg hc).symm.trans h
    refine x_iload hX dX4_tryMoves_127 rfl ?_
    refine x_if_eq (tgt := 171) hX dX4_tryMoves_129 (by decide) rfl (fun hc => ?_) (fun hc => ?_)
    · replace h := (if_pos hc).symm.trans h
      exact x_weak [true, true, true, true, true, true, false, true, true, false, false, false] rfl (tj_X4_tryMoves_171_65 hX h1 x2 x3 x4 x5 x7 x8 M o h hP hE hR)
    · replace h := (if_neg hc).symm.trans h
      refine x_aloadn hX dX4_tryMoves_132 rfl ?_
      refine x_getRj (j := 87) hX dX4_tryMoves_133 fl_X4_12 rfl (st86 (gk hX)) rfl ?_
      refine x_aloadn hX dX4_tryMoves_136 rfl ?_
      refine x_iload hX dX4_tryMoves_137 rfl ?_
      refine x_aloadn hX dX4_tryMoves_139 rfl ?_
      refine x_getRj (j := a1 + 1) hX dX4_tryMoves_140 fl_X4_65 rfl h1 rfl ?_
      refine x_getI hX dX4_tryMoves_143 fl_X4_69 rfl (fo_1_0 (gk hX) h1) ?_
      obtain ⟨r_14, M_15, er_14, h⟩ := cl2_of h
      refine x_callVi (t := 6) (As := [vr (xG X) a1, vi x9, vi (M (a1 + 1) 5)]) (rest := []) hX dX4_tryMoves_146 (c_X6_lengthFor (gk hX) (gl hX) (st87 (gk hX)) h1 x9 (M (a1 + 1) 5) M _ _ er_14) kX6_lengthFor vX6_lengthFor w_1318 (st87 (gk hX)) rfl rfl rfl rfl (Nat.le_of_ble_eq_true rfl) z0 ?_
      refine x_aloadn hX dX4_tryMoves_149 rfl ?_
      refine x_getRj (j := 96) hX dX4_tryMoves_150 fl_X4_18 rfl (st86 (gk hX)) rfl ?_
      refine x_iload hX dX4_tryMoves_153 rfl ?_
      obtain ⟨b_16, h⟩ := gi_of h
      refine x_iald hX dX4_tryMoves_155 (st96 (gk hX)) b_16 rfl ?_
      refine x_isub hX dX4_tryMoves_156 ?_
      obtain ⟨x11_17, ex11_17, h⟩ := bnd_of h
      refine x_istore (ls' := [some (vr (xG X) 86), some (vr (xG X) a1), some (vi x2), some (vi x3), some (vi x4), some (vi x5), none, some (vi x7), some (vi x8), some (vi x9), some (vi y0), some (vi x11_17)]) hX dX4_tryMoves_157 rfl ex11_17 rfl ?_
      refine x_aloadn hX dX4_tryMoves_159 rfl ?_
      refine x_iload hX dX4_tryMoves_160 rfl ?_
      refine x_iload hX dX4_tryMoves_162 rfl ?_
      refine x_isub hX dX4_tryMoves_164 ?_
      refine x_iloadn hX dX4_tryMoves_165 rfl ?_
      refine x_iload hX dX4_tryMoves_166 rfl ?_
      obtain ⟨M_19, er_18, h⟩ := cl1_of h
      refine x_callVv (t := 4) (As := [vi (x7 - x11_17), vi x2, vi x8]) (rest := []) hX dX4_tryMoves_168 (c_X4_keepBetter (gk hX) (gl hX) (x7 - x11_17) x2 x8 M_15 _ er_18) kX4_keepBetter vX4_keepBetter w_1326 (st86 (gk hX)) rfl rfl rfl rfl (Nat.le_of_ble_eq_true rfl) z0 ?_
      exact x_weak [true, true, true, true, true, true, false, true, true, false, false, false] rfl (tj_X4_tryMoves_171_65 hX h1 x2 x3 x4 x5 x7 x8 M_19 o h hP hE hR)
noncomputable def j_X4_tryMoves_117_65 (a1 : Nat)  (x2 : Int) (x3 : Int) (x4 : Int) (x5 : Int) (x7 : Int) (x8 : Int) (x9 : Int) (M : Mem) : Option ((Int × Mem) ⊕ ((Mem) ⊕ (Mem))) :=
  j_X4_tryMoves_118_65 a1 x2 x3 x4 x5 x7 x8 x9 0 M
set_option maxRecDepth 100000 in
set_option maxHeartbeats 4000000 in
theorem tj_X4_tryMoves_117_65 {X : Cxt} (hX : Gd X RX4 cX4_tryMoves 12 (none) 5) {a1 : Nat} (h1 : at_ (xG X) a1 11 0)  (x2 : Int) (x3 : Int) (x4 : Int) (x5 : Int) (x7 : Int) (x8 : Int) (x9 : Int) (M : Mem) {Q : State → Prop} (o : (Int × Mem) ⊕ ((Mem) ⊕ (Mem))) (h : j_X4_tryMoves_117_65 a1 x2 x3 x4 x5 x7 x8 x9 M = some o) (hP : ∀ y, o = .inl y → V X 0 0 Q 65 [some (vr (xG X) 86), some (vr (xG X) a1), some (vi x2), some (vi x3), some (vi x4), some (vi x5), none, some (vi x7), some (vi y.1), none, none, none] [] y.2) (hE : ∀ z, o = .inr (.inl z) → V X 0 0 Q 177 [none, none, none, none, none, none, none, none, none, none, none, none] [] z) (hR : ∀ q, o = .inr (.inr q) → Q = Qn X none q) : V X 0 0 Q 117 [some (vr (xG X) 86), some (vr (xG X) a1), some (vi x2), some (vi x3), some (vi x4), some (vi x5), none, some (vi x7), some (vi x8), some (vi x9), none, none] [] M := by
  unfold j_X4_tryMoves_117_65 at h
  refine x_iconst hX dX4_tryMoves_117 ?_
  exact x_weak [true, true, true, true, true, true, false, true, true, true, false, false] rfl (tj_X4_tryMoves_118_65 hX h1 x2 x3 x4 x5 x7 x8 x9 0 M o h hP hE hR)
noncomputable def s_X4_tryMoves_65 (a1 : Nat) (x2 : Int) (x3 : Int) (x4 : Int) (x5 : Int) (x7 : Int) (x8 : Int) (M : Mem) : Option ((Int × Mem) ⊕ ((Mem) ⊕ (Mem))) :=
  (if w32 x8 < w32 (M (a1 + 16) 0) then gi x8 8 (bnd (i_or (M (a1 + 16 + 1) (ix x8)) (i_shl 1 x2)) (fun x9_10 => cl1 (f_J6_bitCount_0f7a4 x9_10 M) (fun r_11 => (if w32 x3 < w32 r_11 then j_X4_tryMoves_117_65 a1 x2 x3 x4 x5 x7 x8 x9_10 M else cl1 (f_X1_weightOfAll a1 x9_10 M) (fun r_20 => (if w32 x4 < w32 r_20 then j_X4_tryMoves_117_65 a1 x2 x3 x4 x5 x7 x8 x9_10 M else j_X4_tryMoves_118_65 a1 x2 x3 x4 x5 x7 x8 x9_10 1 M)))))) else some (.inr (.inl M)))
set_option maxRecDepth 100000 in
set_option maxHeartbeats 4000000 in
theorem ts_X4_tryMoves_65 {X : Cxt} (hX : Gd X RX4 cX4_tryMoves 12 (none) 5) {a1 : Nat} (h1 : at_ (xG X) a1 11 0) (x2 : Int) (x3 : Int) (x4 : Int) (x5 : Int) (x7 : Int) (x8 : Int) (M : Mem) {Q : State → Prop} (o : (Int × Mem) ⊕ ((Mem) ⊕ (Mem))) (h : s_X4_tryMoves_65 a1 x2 x3 x4 x5 x7 x8 M = some o) (hP : ∀ y, o = .inl y → V X 0 0 Q 65 [some (vr (xG X) 86), some (vr (xG X) a1), some (vi x2), some (vi x3), some (vi x4), some (vi x5), none, some (vi x7), some (vi y.1), none, none, none] [] y.2) (hE : ∀ z, o = .inr (.inl z) → V X 0 0 Q 177 [none, none, none, none, none, none, none, none, none, none, none, none] [] z) (hR : ∀ q, o = .inr (.inr q) → Q = Qn X none q) : V X 0 0 Q 65 [some (vr (xG X) 86), some (vr (xG X) a1), some (vi x2), some (vi x3), some (vi x4), some (vi x5), none, some (vi x7), some (vi x8), none, none, none] [] M := by
  unfold s_X4_tryMoves_65 at h
  refine x_iload hX dX4_tryMoves_65 rfl ?_
  refine x_aloadn hX dX4_tryMoves_67 rfl ?_
  refine x_getRj (j := a1 + 16) hX dX4_tryMoves_68 fl_X4_45 rfl h1 rfl ?_
  refine x_getI hX dX4_tryMoves_71 fl_X4_61 rfl (fo_1_3 (gk hX) h1) ?_
  refine x_icmp_ge (tgt := 177) hX dX4_tryMoves_74 (by decide) rfl rfl (fun hc => ?_) (fun hc => ?_)
  · replace h := (if_pos hc).symm.trans h
    refine x_aloadn hX dX4_tryMoves_77 rfl ?_
    refine x_getRj (j := a1 + 16) hX dX4_tryMoves_78 fl_X4_45 rfl h1 rfl ?_
    refine x_getRj (j := a1 + 16 + 1) hX dX4_tryMoves_81 fl_X4_62 rfl (fo_1_3 (gk hX) h1) rfl ?_
    refine x_iload hX dX4_tryMoves_84 rfl ?_
    obtain ⟨b_9, h⟩ := gi_of h
    refine x_iald hX dX4_tryMoves_86 (fo_0_1 (gk hX) (fo_1_3 (gk hX) h1)) b_9 rfl ?_
    refine x_iconst hX dX4_tryMoves_87 ?_
    refine x_iloadn hX dX4_tryMoves_88 rfl ?_
    refine x_ishl hX dX4_tryMoves_89 ?_
    refine x_ior hX dX4_tryMoves_90 ?_
    obtain ⟨x9_10, ex9_10, h⟩ := bnd_of h
    refine x_istore (ls' := [some (vr (xG X) 86), some (vr (xG X) a1), some (vi x2), some (vi x3), some (vi x4), some (vi x5), none, some (vi x7), some (vi x8), some (vi x9_10), none, none]) hX dX4_tryMoves_91 rfl ex9_10 rfl ?_
    refine x_iload hX dX4_tryMoves_93 rfl ?_
    obtain ⟨r_11, er_11, h⟩ := cl1_of h
    refine x_callSi (As := [vi x9_10]) (rest := []) hX dX4_tryMoves_95 (c_J6_bitCount_0f7a4 (gk hX) (gl hX) x9_10 M _ er_11) kJ6_bitCount_0f7a4 sJ6_bitCount_0f7a4 w_1324 rfl rfl rfl (Nat.le_of_ble_eq_true rfl) z0 ?_
    refine x_iloadn hX dX4_tryMoves_98 rfl ?_
    refine x_icmp_gt (tgt := 117) hX dX4_tryMoves_99 (by decide) rfl rfl (fun hc => ?_) (fun hc => ?_)
    · replace h := (if_pos hc).symm.trans h
      exact x_weak [true, true, true, true, true, true, false, true, true, true, false, false] rfl (tj_X4_tryMoves_117_65 hX h1 x2 x3 x4 x5 x7 x8 x9_10 M o h hP hE hR)
    · replace h := (if_neg hc).symm.trans h
      refine x_aloadn hX dX4_tryMoves_102 rfl ?_
      refine x_iload hX dX4_tryMoves_103 rfl ?_
      obtain ⟨r_20, er_20, h⟩ := cl1_of h
      refine x_callVi (t := 1) (As := [vi x9_10]) (rest := []) hX dX4_tryMoves_105 (c_X1_weightOfAll (gk hX) (gl hX) h1 x9_10 M _ er_20) kX1_weightOfAll vX1_weightOfAll w_1325 h1 rfl rfl rfl rfl (Nat.le_of_ble_eq_true rfl) z0 ?_
      refine x_iload hX dX4_tryMoves_108 rfl ?_
      refine x_icmp_gt (tgt := 117) hX dX4_tryMoves_110 (by decide) rfl rfl (fun hc => ?_) (fun hc => ?_)
      · replace h := (if_pos hc).symm.trans h
        exact x_weak [true, true, true, true, true, true, false, true, true, true, false, false] rfl (tj_X4_tryMoves_117_65 hX h1 x2 x3 x4 x5 x7 x8 x9_10 M o h hP hE hR)
      · replace h := (if_neg hc).symm.trans h
        refine x_iconst hX dX4_tryMoves_113 ?_
        refine x_goto (tgt := 118) hX dX4_tryMoves_114 (by decide) ?_
        exact x_weak [true, true, true, true, true, true, false, true, true, true, false, false] rfl (tj_X4_tryMoves_118_65 hX h1 x2 x3 x4 x5 x7 x8 x9_10 1 M o h hP hE hR)
  · replace h := (if_neg hc).symm.trans h
    exact x_weak [false, false, false, false, false, false, false, false, false, false, false, false] rfl (hE M (Option.some.inj h).symm)
noncomputable def f_X4_tryMoves (a1 : Nat) (x2 : Int) (x3 : Int) (x4 : Int) (M : Mem) : Option (Mem) :=
  cl1 (f_X0_batchWith (a1 + 16) x2 M) (fun r_1 => (if w32 r_1 = (-1) then some M else gi r_1 8 (bnd (i_and (M (a1 + 16 + 1) (ix r_1)) (i_xor (i_shl 1 x2) (-1))) (fun x6_4 => gi r_1 8 (cl2 (f_X6_lengthFor 87 a1 x6_4 (M (a1 + 1) 5) M) (fun r_6 M_7 => bnd ((M 96 (ix r_1)) - r_6) (fun x7_8 => lpb (wh (fun x => s_X4_tryMoves_65 a1 x2 x3 x4 r_1 x7_8 x.1 x.2) (0, M_7)) (fun z_22 => some z_22) (fun q => some q))))))))
set_option maxRecDepth 100000 in
set_option maxHeartbeats 4000000 in
theorem c_X4_tryMoves {l : Launch} {G : Gx} (hG : GOK G) (hl : l.stackTraces = false) {a1 : Nat} (h1 : at_ G a1 11 0) (x2 : Int) (x3 : Int) (x4 : Int) (M : Mem) (Mr : Mem) (h : f_X4_tryMoves a1 x2 x3 x4 M = some Mr) : Cn l G mX4_tryMoves 5 [vr G 86, vr G a1, vi x2, vi x3, vi x4] M none Mr := by
  refine Cn_of2 (ls := [some (vr G 86), some (vr G a1), some (vi x2), some (vi x3), some (vi x4), none, none, none, none, none, none, none]) hG hl kX4_tryMoves rfl (Nat.le_of_ble_eq_true rfl) rfl rfl rfl rfl rfl (fun X eG el hX => ?_)
  subst eG; subst el
  unfold f_X4_tryMoves at h
  refine x_aloadn hX dX4_tryMoves_0 rfl ?_
  refine x_getRj (j := a1 + 16) hX dX4_tryMoves_1 fl_X4_45 rfl h1 rfl ?_
  refine x_iloadn hX dX4_tryMoves_4 rfl ?_
  obtain ⟨r_1, er_1, h⟩ := cl1_of h
  refine x_callVi (t := 0) (As := [vi x2]) (rest := []) hX dX4_tryMoves_5 (c_X0_batchWith (gk hX) (gl hX) (fo_1_3 (gk hX) h1) x2 M _ er_1) kX0_batchWith vX0_batchWith w_1323 (fo_1_3 (gk hX) h1) rfl rfl rfl rfl (Nat.le_of_ble_eq_true rfl) z0 ?_
  refine x_istore (ls' := [some (vr (xG X) 86), some (vr (xG X) a1), some (vi x2), some (vi x3), some (vi x4), some (vi r_1), none, none, none, none, none, none]) hX dX4_tryMoves_8 rfl rfl rfl ?_
  refine x_iload hX dX4_tryMoves_10 rfl ?_
  refine x_iconst hX dX4_tryMoves_12 ?_
  refine x_icmp_ne (tgt := 17) hX dX4_tryMoves_13 (by decide) rfl cw_m1 (fun hc => ?_) (fun hc => ?_)
  · replace h := (if_pos hc).symm.trans h
    cases h
    exact x_vret hX dX4_tryMoves_16 rfl
  · replace h := (if_neg hc).symm.trans h
    refine x_aloadn hX dX4_tryMoves_17 rfl ?_
    refine x_getRj (j := a1 + 16) hX dX4_tryMoves_18 fl_X4_45 rfl h1 rfl ?_
    refine x_getRj (j := a1 + 16 + 1) hX dX4_tryMoves_21 fl_X4_62 rfl (fo_1_3 (gk hX) h1) rfl ?_
    refine x_iload hX dX4_tryMoves_24 rfl ?_
    obtain ⟨b_3, h⟩ := gi_of h
    refine x_iald hX dX4_tryMoves_26 (fo_0_1 (gk hX) (fo_1_3 (gk hX) h1)) b_3 rfl ?_
    refine x_iconst hX dX4_tryMoves_27 ?_
    refine x_iloadn hX dX4_tryMoves_28 rfl ?_
    refine x_ishl hX dX4_tryMoves_29 ?_
    refine x_iconst hX dX4_tryMoves_30 ?_
    refine x_ixor hX dX4_tryMoves_31 ?_
    refine x_iand hX dX4_tryMoves_32 ?_
    obtain ⟨x6_4, ex6_4, h⟩ := bnd_of h
    refine x_istore (ls' := [some (vr (xG X) 86), some (vr (xG X) a1), some (vi x2), some (vi x3), some (vi x4), some (vi r_1), some (vi x6_4), none, none, none, none, none]) hX dX4_tryMoves_33 rfl ex6_4 rfl ?_
    refine x_aloadn hX dX4_tryMoves_35 rfl ?_
    refine x_getRj (j := 96) hX dX4_tryMoves_36 fl_X4_18 rfl (st86 (gk hX)) rfl ?_
    refine x_iload hX dX4_tryMoves_39 rfl ?_
    obtain ⟨b_5, h⟩ := gi_of h
    refine x_iald hX dX4_tryMoves_41 (st96 (gk hX)) b_5 rfl ?_
    refine x_aloadn hX dX4_tryMoves_42 rfl ?_
    refine x_getRj (j := 87) hX dX4_tryMoves_43 fl_X4_12 rfl (st86 (gk hX)) rfl ?_
    refine x_aloadn hX dX4_tryMoves_46 rfl ?_
    refine x_iload hX dX4_tryMoves_47 rfl ?_
    refine x_aloadn hX dX4_tryMoves_49 rfl ?_
    refine x_getRj (j := a1 + 1) hX dX4_tryMoves_50 fl_X4_65 rfl h1 rfl ?_
    refine x_getI hX dX4_tryMoves_53 fl_X4_69 rfl (fo_1_0 (gk hX) h1) ?_
    obtain ⟨r_6, M_7, er_6, h⟩ := cl2_of h
    refine x_callVi (t := 6) (As := [vr (xG X) a1, vi x6_4, vi (M (a1 + 1) 5)]) (rest := [vi (M 96 (ix r_1))]) hX dX4_tryMoves_56 (c_X6_lengthFor (gk hX) (gl hX) (st87 (gk hX)) h1 x6_4 (M (a1 + 1) 5) M _ _ er_6) kX6_lengthFor vX6_lengthFor w_1318 (st87 (gk hX)) rfl rfl rfl rfl (Nat.le_of_ble_eq_true rfl) z0 ?_
    refine x_isub hX dX4_tryMoves_59 ?_
    obtain ⟨x7_8, ex7_8, h⟩ := bnd_of h
    refine x_istore (ls' := [some (vr (xG X) 86), some (vr (xG X) a1), some (vi x2), some (vi x3), some (vi x4), some (vi r_1), some (vi x6_4), some (vi x7_8), none, none, none, none]) hX dX4_tryMoves_60 rfl ex7_8 rfl ?_
    refine x_iconst hX dX4_tryMoves_62 ?_
    refine x_istore (ls' := [some (vr (xG X) 86), some (vr (xG X) a1), some (vi x2), some (vi x3), some (vi x4), some (vi r_1), some (vi x6_4), some (vi x7_8), some (vi 0), none, none, none]) hX dX4_tryMoves_63 rfl rfl rfl ?_
    refine x_weak (ls' := [some (vr (xG X) 86), some (vr (xG X) a1), some (vi x2), some (vi x3), some (vi x4), some (vi r_1), none, some (vi x7_8), some (vi 0), none, none, none]) [true, true, true, true, true, true, false, true, true, false, false, false] rfl ?_
    refine lp_use (x := (0, M_7)) (P := fun x => V X 0 0 (Qn X none Mr) 65 [some (vr (xG X) 86), some (vr (xG X) a1), some (vi x2), some (vi x3), some (vi x4), some (vi r_1), none, some (vi x7_8), some (vi x.1), none, none, none] [] x.2) (PE := fun z_22 => V X 0 0 (Qn X none Mr) 177 [none, none, none, none, none, none, none, none, none, none, none, none] [] z_22) (PR := fun q => (Qn X none Mr) = Qn X none q) h (fun x o hh hP hE hR => ts_X4_tryMoves_65 hX h1 x2 x3 x4 r_1 x7_8 x.1 x.2 o hh hP hE hR) (fun z_22 h => ?_) (fun q h => ?_)
    · show V X 0 0 (Qn X none Mr) 177 [none, none, none, none, none, none, none, none, none, none, none, none] [] z_22
      cases h
      exact x_vret hX dX4_tryMoves_177 rfl
    · cases h; rfl
theorem dX6_listStops_0 : decode cX6_listStops 0 = .ok (.aload_n 1, 1) := by decide +kernel
theorem dX6_listStops_1 : decode cX6_listStops 1 = .ok (.getfield 46, 3) := by decide +kernel
theorem dX6_listStops_4 : decode cX6_listStops 4 = .ok (.astore_n 3, 1) := by decide +kernel
theorem dX6_listStops_5 : decode cX6_listStops 5 = .ok (.aload_n 0, 1) := by decide +kernel
theorem dX6_listStops_6 : decode cX6_listStops 6 = .ok (.aload_n 3, 1) := by decide +kernel
theorem dX6_listStops_7 : decode cX6_listStops 7 = .ok (.iload_n 2, 1) := by decide +kernel
theorem dX6_listStops_8 : decode cX6_listStops 8 = .ok (.invokevirtual 103, 3) := by decide +kernel
theorem dX6_listStops_11 : decode cX6_listStops 11 = .ok (.aload_n 0, 1) := by decide +kernel
theorem dX6_listStops_12 : decode cX6_listStops 12 = .ok (.iconst 0, 1) := by decide +kernel
theorem dX6_listStops_13 : decode cX6_listStops 13 = .ok (.putfield 143, 3) := by decide +kernel
theorem dX6_listStops_16 : decode cX6_listStops 16 = .ok (.aload_n 3, 1) := by decide +kernel
theorem dX6_listStops_17 : decode cX6_listStops 17 = .ok (.getfield 146, 3) := by decide +kernel
theorem dX6_listStops_20 : decode cX6_listStops 20 = .ok (.tableswitch 56 1 3 #[28, 36, 44], 28) := by decide +kernel
theorem dX6_listStops_48 : decode cX6_listStops 48 = .ok (.aload_n 0, 1) := by decide +kernel
theorem dX6_listStops_49 : decode cX6_listStops 49 = .ok (.aload_n 1, 1) := by decide +kernel
theorem dX6_listStops_50 : decode cX6_listStops 50 = .ok (.invokevirtual 149, 3) := by decide +kernel
theorem dX6_listStops_53 : decode cX6_listStops 53 = .ok (.goto 28, 3) := by decide +kernel
theorem dX6_listStops_56 : decode cX6_listStops 56 = .ok (.aload_n 0, 1) := by decide +kernel
theorem dX6_listStops_57 : decode cX6_listStops 57 = .ok (.aload_n 1, 1) := by decide +kernel
theorem dX6_listStops_58 : decode cX6_listStops 58 = .ok (.invokevirtual 153, 3) := by decide +kernel
theorem dX6_listStops_61 : decode cX6_listStops 61 = .ok (.goto 20, 3) := by decide +kernel
theorem dX6_listStops_64 : decode cX6_listStops 64 = .ok (.aload_n 0, 1) := by decide +kernel
theorem dX6_listStops_65 : decode cX6_listStops 65 = .ok (.invokevirtual 120, 3) := by decide +kernel
theorem dX6_listStops_68 : decode cX6_listStops 68 = .ok (.aload_n 0, 1) := by decide +kernel
theorem dX6_listStops_69 : decode cX6_listStops 69 = .ok (.aload_n 1, 1) := by decide +kernel
theorem dX6_listStops_70 : decode cX6_listStops 70 = .ok (.invokevirtual 156, 3) := by decide +kernel
theorem dX6_listStops_73 : decode cX6_listStops 73 = .ok (.goto 8, 3) := by decide +kernel
theorem dX6_listStops_76 : decode cX6_listStops 76 = .ok (.aload_n 0, 1) := by decide +kernel
theorem dX6_listStops_77 : decode cX6_listStops 77 = .ok (.aload_n 1, 1) := by decide +kernel
theorem dX6_listStops_78 : decode cX6_listStops 78 = .ok (.invokevirtual 159, 3) := by decide +kernel
theorem dX6_listStops_81 : decode cX6_listStops 81 = .ok (.return_, 1) := by decide +kernel
noncomputable def f_X6_listStops (th : Nat) (a1 : Nat) (x2 : Int) (M : Mem) : Option (Mem) :=
  cl1 (f_X6_findAisles th (a1 + 1) x2 M) (fun M_2 => bnd (upd2 M_2 th 12 0) (fun M_3 => (if w32 (M_3 (a1 + 1) 5) = 1 then cl1 (f_X6_listSShape th a1 M_3) (fun M_5 => some M_5) else (if w32 (M_3 (a1 + 1) 5) = 2 then cl1 (f_X6_listLargestGap th a1 M_3) (fun M_7 => some M_7) else (if w32 (M_3 (a1 + 1) 5) = 3 then cl1 (f_X6_planCombined th M_3) (fun M_9 => cl1 (f_X6_listCombined th a1 M_9) (fun M_11 => some M_11)) else cl1 (f_X6_listReturn th a1 M_3) (fun M_13 => some M_13))))))
set_option maxRecDepth 100000 in
set_option maxHeartbeats 4000000 in
theorem c_X6_listStops {l : Launch} {G : Gx} (hG : GOK G) (hl : l.stackTraces = false) {th : Nat} (h0 : at_ G th 16 0) {a1 : Nat} (h1 : at_ G a1 11 0) (x2 : Int) (M : Mem) (Mr : Mem) (h : f_X6_listStops th a1 x2 M = some Mr) : Cn l G mX6_listStops 5 [vr G th, vr G a1, vi x2] M none Mr := by
  refine Cn_of2 (ls := [some (vr G th), some (vr G a1), some (vi x2), none]) hG hl kX6_listStops rfl (Nat.le_of_ble_eq_true rfl) rfl rfl rfl rfl rfl (fun X eG el hX => ?_)
  subst eG; subst el
  unfold f_X6_listStops at h
  refine x_aloadn hX dX6_listStops_0 rfl ?_
  refine x_getRj (j := a1 + 1) hX dX6_listStops_1 fl_X6_46 rfl h1 rfl ?_
  refine x_astoren (ls' := [some (vr (xG X) th), some (vr (xG X) a1), some (vi x2), some (vr (xG X) (a1 + 1))]) hX dX6_listStops_4 rfl rfl ?_
  refine x_aloadn hX dX6_listStops_5 rfl ?_
  refine x_aloadn hX dX6_listStops_6 rfl ?_
  refine x_iloadn hX dX6_listStops_7 rfl ?_
  obtain ⟨M_2, er_1, h⟩ := cl1_of h
  refine x_callVv (t := 6) (As := [vr (xG X) (a1 + 1), vi x2]) (rest := []) hX dX6_listStops_8 (c_X6_findAisles (gk hX) (gl hX) h0 (fo_1_0 (gk hX) h1) x2 M _ er_1) kX6_findAisles vX6_findAisles w_630 h0 rfl rfl rfl rfl (Nat.le_of_ble_eq_true rfl) z0 ?_
  refine x_aloadn hX dX6_listStops_11 rfl ?_
  refine x_iconst hX dX6_listStops_12 ?_
  obtain ⟨M_3, eM_3, h⟩ := bnd_of h
  refine x_putI hX dX6_listStops_13 fp_X6_143 rfl h0 (x_meq eM_3 ?_)
  refine x_aloadn hX dX6_listStops_16 rfl ?_
  refine x_getI hX dX6_listStops_17 fl_X6_146 rfl (fo_1_0 (gk hX) h1) ?_
  by_cases hs1 : w32 (M_3 (a1 + 1) 5) = 1
  · replace h := (if_pos hs1).symm.trans h
    refine x_tsI (tgt := 48) hX dX6_listStops_20 hs1 (by decide) (by decide) rfl (by decide) ?_
    refine x_aloadn hX dX6_listStops_48 rfl ?_
    refine x_aloadn hX dX6_listStops_49 rfl ?_
    obtain ⟨M_5, er_4, h⟩ := cl1_of h
    refine x_callVv (t := 6) (As := [vr (xG X) a1]) (rest := []) hX dX6_listStops_50 (c_X6_listSShape (gk hX) (gl hX) h0 h1 M_3 _ er_4) kX6_listSShape vX6_listSShape w_1463 h0 rfl rfl rfl rfl (Nat.le_of_ble_eq_true rfl) z0 ?_
    refine x_goto (tgt := 81) hX dX6_listStops_53 (by decide) ?_
    cases h
    exact x_vret hX dX6_listStops_81 rfl
  · replace h := (if_neg hs1).symm.trans h
    by_cases hs2 : w32 (M_3 (a1 + 1) 5) = 2
    · replace h := (if_pos hs2).symm.trans h
      refine x_tsI (tgt := 56) hX dX6_listStops_20 hs2 (by decide) (by decide) rfl (by decide) ?_
      refine x_aloadn hX dX6_listStops_56 rfl ?_
      refine x_aloadn hX dX6_listStops_57 rfl ?_
      obtain ⟨M_7, er_6, h⟩ := cl1_of h
      refine x_callVv (t := 6) (As := [vr (xG X) a1]) (rest := []) hX dX6_listStops_58 (c_X6_listLargestGap (gk hX) (gl hX) h0 h1 M_3 _ er_6) kX6_listLargestGap vX6_listLargestGap w_1483 h0 rfl rfl rfl rfl (Nat.le_of_ble_eq_true rfl) z0 ?_
      refine x_goto (tgt := 81) hX dX6_listStops_61 (by decide) ?_
      cases h
      exact x_vret hX dX6_listStops_81 rfl
    · replace h := (if_neg hs2).symm.trans h
      by_cases hs3 : w32 (M_3 (a1 + 1) 5) = 3
      · replace h := (if_pos hs3).symm.trans h
        refine x_tsI (tgt := 64) hX dX6_listStops_20 hs3 (by decide) (by decide) rfl (by decide) ?_
        refine x_aloadn hX dX6_listStops_64 rfl ?_
        obtain ⟨M_9, er_8, h⟩ := cl1_of h
        refine x_callVv (t := 6) (As := []) (rest := []) hX dX6_listStops_65 (c_X6_planCombined (gk hX) (gl hX) h0 M_3 _ er_8) kX6_planCombined vX6_planCombined w_654 h0 rfl rfl rfl rfl (Nat.le_of_ble_eq_true rfl) z0 ?_
        refine x_aloadn hX dX6_listStops_68 rfl ?_
        refine x_aloadn hX dX6_listStops_69 rfl ?_
        obtain ⟨M_11, er_10, h⟩ := cl1_of h
        refine x_callVv (t := 6) (As := [vr (xG X) a1]) (rest := []) hX dX6_listStops_70 (c_X6_listCombined (gk hX) (gl hX) h0 h1 M_9 _ er_10) kX6_listCombined vX6_listCombined w_1491 h0 rfl rfl rfl rfl (Nat.le_of_ble_eq_true rfl) z0 ?_
        refine x_goto (tgt := 81) hX dX6_listStops_73 (by decide) ?_
        cases h
        exact x_vret hX dX6_listStops_81 rfl
      · replace h := (if_neg hs3).symm.trans h
        refine x_tsO (tgt := 76) hX dX6_listStops_20 (by omega) (by decide) ?_
        refine x_aloadn hX dX6_listStops_76 rfl ?_
        refine x_aloadn hX dX6_listStops_77 rfl ?_
        obtain ⟨M_13, er_12, h⟩ := cl1_of h
        refine x_callVv (t := 6) (As := [vr (xG X) a1]) (rest := []) hX dX6_listStops_78 (c_X6_listReturn (gk hX) (gl hX) h0 h1 M_3 _ er_12) kX6_listReturn vX6_listReturn w_1487 h0 rfl rfl rfl rfl (Nat.le_of_ble_eq_true rfl) z0 ?_
        cases h
        exact x_vret hX dX6_listStops_81 rfl
theorem dX7_runAll_0 : decode cX7_runAll 0 = .ok (.aload_n 0, 1) := by decide +kernel
theorem dX7_runAll_1 : decode cX7_runAll 1 = .ok (.aload_n 1, 1) := by decide +kernel
theorem dX7_runAll_2 : decode cX7_runAll 2 = .ok (.invokevirtual 75, 3) := by decide +kernel
theorem dX7_runAll_5 : decode cX7_runAll 5 = .ok (.iconst 0, 1) := by decide +kernel
theorem dX7_runAll_6 : decode cX7_runAll 6 = .ok (.istore_n 2, 1) := by decide +kernel
theorem dX7_runAll_7 : decode cX7_runAll 7 = .ok (.iload_n 2, 1) := by decide +kernel
theorem dX7_runAll_8 : decode cX7_runAll 8 = .ok (.aload_n 1, 1) := by decide +kernel
theorem dX7_runAll_9 : decode cX7_runAll 9 = .ok (.getfield 35, 3) := by decide +kernel
theorem dX7_runAll_12 : decode cX7_runAll 12 = .ok (.getfield 39, 3) := by decide +kernel
theorem dX7_runAll_15 : decode cX7_runAll 15 = .ok (.if_icmp .ge 19, 3) := by decide +kernel
theorem dX7_runAll_18 : decode cX7_runAll 18 = .ok (.aload_n 0, 1) := by decide +kernel
theorem dX7_runAll_19 : decode cX7_runAll 19 = .ok (.aload_n 1, 1) := by decide +kernel
theorem dX7_runAll_20 : decode cX7_runAll 20 = .ok (.getfield 29, 3) := by decide +kernel
theorem dX7_runAll_23 : decode cX7_runAll 23 = .ok (.iload_n 2, 1) := by decide +kernel
theorem dX7_runAll_24 : decode cX7_runAll 24 = .ok (.iload_n 2, 1) := by decide +kernel
theorem dX7_runAll_25 : decode cX7_runAll 25 = .ok (.invokevirtual 79, 3) := by decide +kernel
theorem dX7_runAll_28 : decode cX7_runAll 28 = .ok (.iinc 2 1, 3) := by decide +kernel
theorem dX7_runAll_31 : decode cX7_runAll 31 = .ok (.goto (-24), 3) := by decide +kernel
theorem dX7_runAll_34 : decode cX7_runAll 34 = .ok (.return_, 1) := by decide +kernel
noncomputable def s_X7_runAll_7 (th : Nat) (a1 : Nat) (x2 : Int) (M : Mem) : Option ((Int × Mem) ⊕ ((Mem) ⊕ (Mem))) :=
  (if w32 x2 < w32 (M (a1 + 16) 0) then cl1 (f_X7_run th (a1 + 1) x2 x2 M) (fun M_4 => bnd (x2 + 1) (fun x2_5 => some (.inl (x2_5, M_4)))) else some (.inr (.inl M)))
set_option maxRecDepth 100000 in
set_option maxHeartbeats 4000000 in
theorem ts_X7_runAll_7 {X : Cxt} (hX : Gd X RX7 cX7_runAll 3 (none) 5) {th : Nat} (h0 : at_ (xG X) th 17 0) {a1 : Nat} (h1 : at_ (xG X) a1 11 0) (x2 : Int) (M : Mem) {Q : State → Prop} (o : (Int × Mem) ⊕ ((Mem) ⊕ (Mem))) (h : s_X7_runAll_7 th a1 x2 M = some o) (hP : ∀ y, o = .inl y → V X 0 0 Q 7 [some (vr (xG X) th), some (vr (xG X) a1), some (vi y.1)] [] y.2) (hE : ∀ z, o = .inr (.inl z) → V X 0 0 Q 34 [none, none, none] [] z) (hR : ∀ q, o = .inr (.inr q) → Q = Qn X none q) : V X 0 0 Q 7 [some (vr (xG X) th), some (vr (xG X) a1), some (vi x2)] [] M := by
  unfold s_X7_runAll_7 at h
  refine x_iloadn hX dX7_runAll_7 rfl ?_
  refine x_aloadn hX dX7_runAll_8 rfl ?_
  refine x_getRj (j := a1 + 16) hX dX7_runAll_9 fl_X7_35 rfl h1 rfl ?_
  refine x_getI hX dX7_runAll_12 fl_X7_39 rfl (fo_1_3 (gk hX) h1) ?_
  refine x_icmp_ge (tgt := 34) hX dX7_runAll_15 (by decide) rfl rfl (fun hc => ?_) (fun hc => ?_)
  · replace h := (if_pos hc).symm.trans h
    refine x_aloadn hX dX7_runAll_18 rfl ?_
    refine x_aloadn hX dX7_runAll_19 rfl ?_
    refine x_getRj (j := a1 + 1) hX dX7_runAll_20 fl_X7_29 rfl h1 rfl ?_
    refine x_iloadn hX dX7_runAll_23 rfl ?_
    refine x_iloadn hX dX7_runAll_24 rfl ?_
    obtain ⟨M_4, er_3, h⟩ := cl1_of h
    refine x_callVv (t := 7) (As := [vr (xG X) (a1 + 1), vi x2, vi x2]) (rest := []) hX dX7_runAll_25 (c_X7_run (gk hX) (gl hX) h0 (fo_1_0 (gk hX) h1) x2 x2 M _ er_3) kX7_run vX7_run w_685 h0 rfl rfl rfl rfl (Nat.le_of_ble_eq_true rfl) z0 ?_
    obtain ⟨x2_5, ex2_5, h⟩ := bnd_of h
    refine x_iinc (ls' := [some (vr (xG X) th), some (vr (xG X) a1), some (vi x2_5)]) hX dX7_runAll_28 rfl rfl ex2_5 rfl ?_
    refine x_goto (tgt := 7) hX dX7_runAll_31 (by decide) ?_
    exact x_weak [true, true, true] rfl (hP (x2_5, M_4) (Option.some.inj h).symm)
  · replace h := (if_neg hc).symm.trans h
    exact x_weak [false, false, false] rfl (hE M (Option.some.inj h).symm)
noncomputable def f_X7_runAll (th : Nat) (a1 : Nat) (M : Mem) : Option (Mem) :=
  cl1 (f_X7_measureWork th a1 M) (fun M_2 => lpb (wh (fun x => s_X7_runAll_7 th a1 x.1 x.2) (0, M_2)) (fun z_6 => some z_6) (fun q => some q))
set_option maxRecDepth 100000 in
set_option maxHeartbeats 4000000 in
theorem c_X7_runAll {l : Launch} {G : Gx} (hG : GOK G) (hl : l.stackTraces = false) {th : Nat} (h0 : at_ G th 17 0) {a1 : Nat} (h1 : at_ G a1 11 0) (M : Mem) (Mr : Mem) (h : f_X7_runAll th a1 M = some Mr) : Cn l G mX7_runAll 5 [vr G th, vr G a1] M none Mr := by
  refine Cn_of2 (ls := [some (vr G th), some (vr G a1), none]) hG hl kX7_runAll rfl (Nat.le_of_ble_eq_true rfl) rfl rfl rfl rfl rfl (fun X eG el hX => ?_)
  subst eG; subst el
  unfold f_X7_runAll at h
  refine x_aloadn hX dX7_runAll_0 rfl ?_
  refine x_aloadn hX dX7_runAll_1 rfl ?_
  obtain ⟨M_2, er_1, h⟩ := cl1_of h
  refine x_callVv (t := 7) (As := [vr (xG X) a1]) (rest := []) hX dX7_runAll_2 (c_X7_measureWork (gk hX) (gl hX) h0 h1 M _ er_1) kX7_measureWork vX7_measureWork w_675 h0 rfl rfl rfl rfl (Nat.le_of_ble_eq_true rfl) z0 ?_
  refine x_iconst hX dX7_runAll_5 ?_
  refine x_istoren (ls' := [some (vr (xG X) th), some (vr (xG X) a1), some (vi 0)]) hX dX7_runAll_6 rfl rfl rfl ?_
  refine x_weak (ls' := [some (vr (xG X) th), some (vr (xG X) a1), some (vi 0)]) [true, true, true] rfl ?_
  refine lp_use (x := (0, M_2)) (P := fun x => V X 0 0 (Qn X none Mr) 7 [some (vr (xG X) th), some (vr (xG X) a1), some (vi x.1)] [] x.2) (PE := fun z_6 => V X 0 0 (Qn X none Mr) 34 [none, none, none] [] z_6) (PR := fun q => (Qn X none Mr) = Qn X none q) h (fun x o hh hP hE hR => ts_X7_runAll_7 hX h0 h1 x.1 x.2 o hh hP hE hR) (fun z_6 h => ?_) (fun q h => ?_)
  · show V X 0 0 (Qn X none Mr) 34 [none, none, none] [] z_6
    cases h
    exact x_vret hX dX7_runAll_34 rfl
  · cases h; rfl
theorem dX10_isWord_0 : decode cX10_isWord 0 = .ok (.aload_n 0, 1) := by decide +kernel
theorem dX10_isWord_1 : decode cX10_isWord 1 = .ok (.getfield 44, 3) := by decide +kernel
theorem dX10_isWord_4 : decode cX10_isWord 4 = .ok (.iconst 1, 1) := by decide +kernel
theorem dX10_isWord_5 : decode cX10_isWord 5 = .ok (.if_icmp .ne 19, 3) := by decide +kernel
theorem dX10_isWord_8 : decode cX10_isWord 8 = .ok (.aload_n 0, 1) := by decide +kernel
theorem dX10_isWord_9 : decode cX10_isWord 9 = .ok (.getfield 25, 3) := by decide +kernel
theorem dX10_isWord_12 : decode cX10_isWord 12 = .ok (.aload_n 0, 1) := by decide +kernel
theorem dX10_isWord_13 : decode cX10_isWord 13 = .ok (.getfield 51, 3) := by decide +kernel
theorem dX10_isWord_16 : decode cX10_isWord 16 = .ok (.isub, 1) := by decide +kernel
theorem dX10_isWord_17 : decode cX10_isWord 17 = .ok (.aload_n 1, 1) := by decide +kernel
theorem dX10_isWord_18 : decode cX10_isWord 18 = .ok (.invokevirtual 183, 3) := by decide +kernel
theorem dX10_isWord_21 : decode cX10_isWord 21 = .ok (.if_icmp .eq 5, 3) := by decide +kernel
theorem dX10_isWord_24 : decode cX10_isWord 24 = .ok (.iconst 0, 1) := by decide +kernel
theorem dX10_isWord_25 : decode cX10_isWord 25 = .ok (.ireturn, 1) := by decide +kernel
theorem dX10_isWord_26 : decode cX10_isWord 26 = .ok (.iconst 0, 1) := by decide +kernel
theorem dX10_isWord_27 : decode cX10_isWord 27 = .ok (.istore_n 2, 1) := by decide +kernel
theorem dX10_isWord_28 : decode cX10_isWord 28 = .ok (.iload_n 2, 1) := by decide +kernel
theorem dX10_isWord_29 : decode cX10_isWord 29 = .ok (.aload_n 1, 1) := by decide +kernel
theorem dX10_isWord_30 : decode cX10_isWord 30 = .ok (.invokevirtual 183, 3) := by decide +kernel
theorem dX10_isWord_33 : decode cX10_isWord 33 = .ok (.if_icmp .ge 30, 3) := by decide +kernel
theorem dX10_isWord_36 : decode cX10_isWord 36 = .ok (.aload_n 0, 1) := by decide +kernel
theorem dX10_isWord_37 : decode cX10_isWord 37 = .ok (.getfield 9, 3) := by decide +kernel
theorem dX10_isWord_40 : decode cX10_isWord 40 = .ok (.aload_n 0, 1) := by decide +kernel
theorem dX10_isWord_41 : decode cX10_isWord 41 = .ok (.getfield 51, 3) := by decide +kernel
theorem dX10_isWord_44 : decode cX10_isWord 44 = .ok (.iload_n 2, 1) := by decide +kernel
theorem dX10_isWord_45 : decode cX10_isWord 45 = .ok (.iadd, 1) := by decide +kernel
theorem dX10_isWord_46 : decode cX10_isWord 46 = .ok (.baload, 1) := by decide +kernel
theorem dX10_isWord_47 : decode cX10_isWord 47 = .ok (.aload_n 1, 1) := by decide +kernel
theorem dX10_isWord_48 : decode cX10_isWord 48 = .ok (.iload_n 2, 1) := by decide +kernel
theorem dX10_isWord_49 : decode cX10_isWord 49 = .ok (.invokevirtual 188, 3) := by decide +kernel
theorem dX10_isWord_52 : decode cX10_isWord 52 = .ok (.if_icmp .eq 5, 3) := by decide +kernel
theorem dX10_isWord_55 : decode cX10_isWord 55 = .ok (.iconst 0, 1) := by decide +kernel
theorem dX10_isWord_56 : decode cX10_isWord 56 = .ok (.ireturn, 1) := by decide +kernel
theorem dX10_isWord_57 : decode cX10_isWord 57 = .ok (.iinc 2 1, 3) := by decide +kernel
theorem dX10_isWord_60 : decode cX10_isWord 60 = .ok (.goto (-32), 3) := by decide +kernel
theorem dX10_isWord_63 : decode cX10_isWord 63 = .ok (.iconst 1, 1) := by decide +kernel
theorem dX10_isWord_64 : decode cX10_isWord 64 = .ok (.ireturn, 1) := by decide +kernel
noncomputable def s_X10_isWord_28 (w1 : Nat) (M : Mem) (x2 : Int) : Option ((Int) ⊕ ((Unit) ⊕ (Int))) :=
  (if w32 x2 < w32 (s_len w1) then gi ((M 38 5) + x2) 600 (gs w1 x2 ((if w32 (M 39 (ix ((M 38 5) + x2))) = w32 (s_chr w1 x2) then bnd (x2 + 1) (fun x2_3 => some (.inl x2_3)) else some (.inr (.inr 0))))) else some (.inr (.inl ())))
set_option maxRecDepth 100000 in
set_option maxHeartbeats 4000000 in
theorem ts_X10_isWord_28 {X : Cxt} (hX : Gd X RX10 cX10_isWord 3 (some .boolean) 5) {w1 : Nat} (h1 : Nat.blt w1 12 = true) (M : Mem) (x2 : Int) {Q : State → Prop} (o : (Int) ⊕ ((Unit) ⊕ (Int))) (h : s_X10_isWord_28 w1 M x2 = some o) (hP : ∀ y, o = .inl y → V X 0 0 Q 28 [some (vr (xG X) 38), some (vs (xG X) w1), some (vi y)] [] M) (hE : ∀ z, o = .inr (.inl z) → V X 0 0 Q 63 [none, none, none] [] M) (hR : ∀ q, o = .inr (.inr q) → Q = Qn X (some (vi q)) M) : V X 0 0 Q 28 [some (vr (xG X) 38), some (vs (xG X) w1), some (vi x2)] [] M := by
  unfold s_X10_isWord_28 at h
  refine x_iloadn hX dX10_isWord_28 rfl ?_
  refine x_sloadn hX dX10_isWord_29 rfl ?_
  refine x_callTi (As := []) (rest := [vi x2]) hX dX10_isWord_30 (c_strlen (gk hX) (gl hX) h1 _) k_strlen v_strlen w_801 h1 rfl rfl rfl rfl (Nat.le_of_ble_eq_true rfl) z0 ?_
  refine x_icmp_ge (tgt := 63) hX dX10_isWord_33 (by decide) rfl rfl (fun hc => ?_) (fun hc => ?_)
  · replace h := (if_pos hc).symm.trans h
    refine x_aloadn hX dX10_isWord_36 rfl ?_
    refine x_getRj (j := 39) hX dX10_isWord_37 fl_X10_9 rfl (st38 (gk hX)) rfl ?_
    refine x_aloadn hX dX10_isWord_40 rfl ?_
    refine x_getI hX dX10_isWord_41 fl_X10_51 rfl (st38 (gk hX)) ?_
    refine x_iloadn hX dX10_isWord_44 rfl ?_
    refine x_iadd hX dX10_isWord_45 ?_
    obtain ⟨b_1, h⟩ := gi_of h
    refine x_bald hX dX10_isWord_46 (st39 (gk hX)) b_1 rfl ?_
    refine x_sloadn hX dX10_isWord_47 rfl ?_
    refine x_iloadn hX dX10_isWord_48 rfl ?_
    obtain ⟨b_2, h⟩ := gs_of h
    refine x_callTi (As := [vi x2]) (rest := [vi (M 39 (ix ((M 38 5) + x2)))]) hX dX10_isWord_49 (c_strchr (gk hX) (gl hX) h1 _ b_2 _) k_strchr v_strchr w_811 h1 rfl rfl rfl rfl (Nat.le_of_ble_eq_true rfl) z0 ?_
    refine x_icmp_eq (tgt := 57) hX dX10_isWord_52 (by decide) rfl rfl (fun hc => ?_) (fun hc => ?_)
    · replace h := (if_pos hc).symm.trans h
      obtain ⟨x2_3, ex2_3, h⟩ := bnd_of h
      refine x_iinc (ls' := [some (vr (xG X) 38), some (vs (xG X) w1), some (vi x2_3)]) hX dX10_isWord_57 rfl rfl ex2_3 rfl ?_
      refine x_goto (tgt := 28) hX dX10_isWord_60 (by decide) ?_
      exact x_weak [true, true, true] rfl (hP x2_3 (Option.some.inj h).symm)
    · replace h := (if_neg hc).symm.trans h
      refine x_iconst hX dX10_isWord_55 ?_
      exact x_qeq (hR 0 (Option.some.inj h).symm) (x_zret hX dX10_isWord_56 (Or.inl cw_0) rfl)
  · replace h := (if_neg hc).symm.trans h
    exact x_weak [false, false, false] rfl (hE () (Option.some.inj h).symm)
noncomputable def f_X10_isWord (w1 : Nat) (M : Mem) : Option (Int) :=
  (if w32 (M 38 4) = 1 then (if w32 ((M 38 6) - (M 38 5)) = w32 (s_len w1) then lpb (wh (fun x => s_X10_isWord_28 w1 M x) 0) (fun z_4 => some 1) (fun q => some q) else some 0) else some 0)
set_option maxRecDepth 100000 in
set_option maxHeartbeats 4000000 in
theorem c_X10_isWord {l : Launch} {G : Gx} (hG : GOK G) (hl : l.stackTraces = false) {w1 : Nat} (h1 : Nat.blt w1 12 = true) (M : Mem) (r : Int) (h : f_X10_isWord w1 M = some r) : Cn l G mX10_isWord 5 [vr G 38, vs G w1] M (some (vi r)) M := by
  refine Cn_of2 (ls := [some (vr G 38), some (vs G w1), none]) hG hl kX10_isWord rfl (Nat.le_of_ble_eq_true rfl) rfl rfl rfl rfl rfl (fun X eG el hX => ?_)
  subst eG; subst el
  unfold f_X10_isWord at h
  refine x_aloadn hX dX10_isWord_0 rfl ?_
  refine x_getI hX dX10_isWord_1 fl_X10_44 rfl (st38 (gk hX)) ?_
  refine x_iconst hX dX10_isWord_4 ?_
  refine x_icmp_ne (tgt := 24) hX dX10_isWord_5 (by decide) rfl cw_1 (fun hc => ?_) (fun hc => ?_)
  · replace h := (if_pos hc).symm.trans h
    refine x_aloadn hX dX10_isWord_8 rfl ?_
    refine x_getI hX dX10_isWord_9 fl_X10_25 rfl (st38 (gk hX)) ?_
    refine x_aloadn hX dX10_isWord_12 rfl ?_
    refine x_getI hX dX10_isWord_13 fl_X10_51 rfl (st38 (gk hX)) ?_
    refine x_isub hX dX10_isWord_16 ?_
    refine x_sloadn hX dX10_isWord_17 rfl ?_
    refine x_callTi (As := []) (rest := [vi ((M 38 6) - (M 38 5))]) hX dX10_isWord_18 (c_strlen (gk hX) (gl hX) h1 _) k_strlen v_strlen w_801 h1 rfl rfl rfl rfl (Nat.le_of_ble_eq_true rfl) z0 ?_
    refine x_icmp_eq (tgt := 26) hX dX10_isWord_21 (by decide) rfl rfl (fun hc => ?_) (fun hc => ?_)
    · replace h := (if_pos hc).symm.trans h
      refine x_iconst hX dX10_isWord_26 ?_
      refine x_istoren (ls' := [some (vr (xG X) 38), some (vs (xG X) w1), some (vi 0)]) hX dX10_isWord_27 rfl rfl rfl ?_
      refine x_weak (ls' := [some (vr (xG X) 38), some (vs (xG X) w1), some (vi 0)]) [true, true, true] rfl ?_
      refine lp_use (x := 0) (P := fun x => V X 0 0 (Qn X (some (vi r)) M) 28 [some (vr (xG X) 38), some (vs (xG X) w1), some (vi x)] [] M) (PE := fun z_4 => V X 0 0 (Qn X (some (vi r)) M) 63 [none, none, none] [] M) (PR := fun q => (Qn X (some (vi r)) M) = Qn X (some (vi q)) M) h (fun x o hh hP hE hR => ts_X10_isWord_28 hX h1 M x o hh hP hE hR) (fun z_4 h => ?_) (fun q h => ?_)
      · show V X 0 0 (Qn X (some (vi r)) M) 63 [none, none, none] [] M
        refine x_iconst hX dX10_isWord_63 ?_
        cases h
        exact x_zret hX dX10_isWord_64 (Or.inr cw_1) rfl
      · cases h; rfl
    · replace h := (if_neg hc).symm.trans h
      refine x_iconst hX dX10_isWord_24 ?_
      cases h
      exact x_zret hX dX10_isWord_25 (Or.inl cw_0) rfl
  · replace h := (if_neg hc).symm.trans h
    refine x_iconst hX dX10_isWord_24 ?_
    cases h
    exact x_zret hX dX10_isWord_25 (Or.inl cw_0) rfl
theorem dX11_makespan_0 : decode cX11_makespan 0 = .ok (.aload_n 0, 1) := by decide +kernel
theorem dX11_makespan_1 : decode cX11_makespan 1 = .ok (.getfield 10, 3) := by decide +kernel
theorem dX11_makespan_4 : decode cX11_makespan 4 = .ok (.getfield 159, 3) := by decide +kernel
theorem dX11_makespan_7 : decode cX11_makespan 7 = .ok (.getfield 168, 3) := by decide +kernel
theorem dX11_makespan_10 : decode cX11_makespan 10 = .ok (.ifCond .ne 5, 3) := by decide +kernel
theorem dX11_makespan_13 : decode cX11_makespan 13 = .ok (.iconst 0, 1) := by decide +kernel
theorem dX11_makespan_14 : decode cX11_makespan 14 = .ok (.ireturn, 1) := by decide +kernel
theorem dX11_makespan_15 : decode cX11_makespan 15 = .ok (.aload_n 0, 1) := by decide +kernel
theorem dX11_makespan_16 : decode cX11_makespan 16 = .ok (.getfield 40, 3) := by decide +kernel
theorem dX11_makespan_19 : decode cX11_makespan 19 = .ok (.aload_n 0, 1) := by decide +kernel
theorem dX11_makespan_20 : decode cX11_makespan 20 = .ok (.getfield 10, 3) := by decide +kernel
theorem dX11_makespan_23 : decode cX11_makespan 23 = .ok (.invokevirtual 275, 3) := by decide +kernel
theorem dX11_makespan_26 : decode cX11_makespan 26 = .ok (.aload_n 0, 1) := by decide +kernel
theorem dX11_makespan_27 : decode cX11_makespan 27 = .ok (.getfield 40, 3) := by decide +kernel
theorem dX11_makespan_30 : decode cX11_makespan 30 = .ok (.aload_n 0, 1) := by decide +kernel
theorem dX11_makespan_31 : decode cX11_makespan 31 = .ok (.getfield 10, 3) := by decide +kernel
theorem dX11_makespan_34 : decode cX11_makespan 34 = .ok (.getfield 79, 3) := by decide +kernel
theorem dX11_makespan_37 : decode cX11_makespan 37 = .ok (.aload_n 0, 1) := by decide +kernel
theorem dX11_makespan_38 : decode cX11_makespan 38 = .ok (.getfield 10, 3) := by decide +kernel
theorem dX11_makespan_41 : decode cX11_makespan 41 = .ok (.getfield 159, 3) := by decide +kernel
theorem dX11_makespan_44 : decode cX11_makespan 44 = .ok (.getfield 168, 3) := by decide +kernel
theorem dX11_makespan_47 : decode cX11_makespan 47 = .ok (.iconst 1, 1) := by decide +kernel
theorem dX11_makespan_48 : decode cX11_makespan 48 = .ok (.isub, 1) := by decide +kernel
theorem dX11_makespan_49 : decode cX11_makespan 49 = .ok (.invokevirtual 284, 3) := by decide +kernel
theorem dX11_makespan_52 : decode cX11_makespan 52 = .ok (.ireturn, 1) := by decide +kernel
noncomputable def f_X11_makespan  (M : Mem) : Option (Int × Mem) :=
  (if w32 (M 17 0) = 0 then some (0, M) else cl1 (f_X7_runAll 49 1 M) (fun M_2 => cl1 (f_X7_completion 49 2 ((M_2 17 0) - 1) M_2) (fun r_3 => some (r_3, M_2))))
set_option maxRecDepth 100000 in
set_option maxHeartbeats 4000000 in
theorem c_X11_makespan {l : Launch} {G : Gx} (hG : GOK G) (hl : l.stackTraces = false)  (M : Mem) (r : Int) (Mr : Mem) (h : f_X11_makespan M = some (r, Mr)) : Cn l G mX11_makespan 6 [vr G 0] M (some (vi r)) Mr := by
  refine Cn_of2 (ls := [some (vr G 0)]) hG hl kX11_makespan rfl (Nat.le_of_ble_eq_true rfl) rfl rfl rfl rfl rfl (fun X eG el hX => ?_)
  subst eG; subst el
  unfold f_X11_makespan at h
  refine x_aloadn hX dX11_makespan_0 rfl ?_
  refine x_getRj (j := 1) hX dX11_makespan_1 fl_X11_10 rfl (st0 (gk hX)) rfl ?_
  refine x_getRj (j := 17) hX dX11_makespan_4 fl_X11_159 rfl (st1 (gk hX)) rfl ?_
  refine x_getI hX dX11_makespan_7 fl_X11_168 rfl (st17 (gk hX)) ?_
  refine x_if_ne (tgt := 15) hX dX11_makespan_10 (by decide) rfl (fun hc => ?_) (fun hc => ?_)
  · replace h := (if_pos hc).symm.trans h
    refine x_iconst hX dX11_makespan_13 ?_
    cases h
    exact x_iret hX dX11_makespan_14 rfl
  · replace h := (if_neg hc).symm.trans h
    refine x_aloadn hX dX11_makespan_15 rfl ?_
    refine x_getRj (j := 49) hX dX11_makespan_16 fl_X11_40 rfl (st0 (gk hX)) rfl ?_
    refine x_aloadn hX dX11_makespan_19 rfl ?_
    refine x_getRj (j := 1) hX dX11_makespan_20 fl_X11_10 rfl (st0 (gk hX)) rfl ?_
    obtain ⟨M_2, er_1, h⟩ := cl1_of h
    refine x_callVv (t := 7) (As := [vr (xG X) 1]) (rest := []) hX dX11_makespan_23 (c_X7_runAll (gk hX) (gl hX) (st49 (gk hX)) (st1 (gk hX)) M _ er_1) kX7_runAll vX7_runAll w_671 (st49 (gk hX)) rfl rfl rfl rfl (Nat.le_of_ble_eq_true rfl) z0 ?_
    refine x_aloadn hX dX11_makespan_26 rfl ?_
    refine x_getRj (j := 49) hX dX11_makespan_27 fl_X11_40 rfl (st0 (gk hX)) rfl ?_
    refine x_aloadn hX dX11_makespan_30 rfl ?_
    refine x_getRj (j := 1) hX dX11_makespan_31 fl_X11_10 rfl (st0 (gk hX)) rfl ?_
    refine x_getRj (j := 2) hX dX11_makespan_34 fl_X11_79 rfl (st1 (gk hX)) rfl ?_
    refine x_aloadn hX dX11_makespan_37 rfl ?_
    refine x_getRj (j := 1) hX dX11_makespan_38 fl_X11_10 rfl (st0 (gk hX)) rfl ?_
    refine x_getRj (j := 17) hX dX11_makespan_41 fl_X11_159 rfl (st1 (gk hX)) rfl ?_
    refine x_getI hX dX11_makespan_44 fl_X11_168 rfl (st17 (gk hX)) ?_
    refine x_iconst hX dX11_makespan_47 ?_
    refine x_isub hX dX11_makespan_48 ?_
    obtain ⟨r_3, er_3, h⟩ := cl1_of h
    refine x_callVi (t := 7) (As := [vr (xG X) 2, vi ((M_2 17 0) - 1)]) (rest := []) hX dX11_makespan_49 (c_X7_completion (gk hX) (gl hX) (st49 (gk hX)) (st2 (gk hX)) ((M_2 17 0) - 1) M_2 _ er_3) kX7_completion vX7_completion w_694 (st49 (gk hX)) rfl rfl rfl rfl (Nat.le_of_ble_eq_true rfl) z0 ?_
    cases h
    exact x_iret hX dX11_makespan_52 rfl
theorem dX11_lateOrders_0 : decode cX11_lateOrders 0 = .ok (.aload_n 0, 1) := by decide +kernel
theorem dX11_lateOrders_1 : decode cX11_lateOrders 1 = .ok (.getfield 40, 3) := by decide +kernel
theorem dX11_lateOrders_4 : decode cX11_lateOrders 4 = .ok (.aload_n 0, 1) := by decide +kernel
theorem dX11_lateOrders_5 : decode cX11_lateOrders 5 = .ok (.getfield 10, 3) := by decide +kernel
theorem dX11_lateOrders_8 : decode cX11_lateOrders 8 = .ok (.invokevirtual 275, 3) := by decide +kernel
theorem dX11_lateOrders_11 : decode cX11_lateOrders 11 = .ok (.iconst 0, 1) := by decide +kernel
theorem dX11_lateOrders_12 : decode cX11_lateOrders 12 = .ok (.istore_n 1, 1) := by decide +kernel
theorem dX11_lateOrders_13 : decode cX11_lateOrders 13 = .ok (.iconst 0, 1) := by decide +kernel
theorem dX11_lateOrders_14 : decode cX11_lateOrders 14 = .ok (.istore_n 2, 1) := by decide +kernel
theorem dX11_lateOrders_15 : decode cX11_lateOrders 15 = .ok (.iload_n 2, 1) := by decide +kernel
theorem dX11_lateOrders_16 : decode cX11_lateOrders 16 = .ok (.aload_n 0, 1) := by decide +kernel
theorem dX11_lateOrders_17 : decode cX11_lateOrders 17 = .ok (.getfield 10, 3) := by decide +kernel
theorem dX11_lateOrders_20 : decode cX11_lateOrders 20 = .ok (.getfield 159, 3) := by decide +kernel
theorem dX11_lateOrders_23 : decode cX11_lateOrders 23 = .ok (.getfield 168, 3) := by decide +kernel
theorem dX11_lateOrders_26 : decode cX11_lateOrders 26 = .ok (.if_icmp .ge 49, 3) := by decide +kernel
theorem dX11_lateOrders_29 : decode cX11_lateOrders 29 = .ok (.iload_n 1, 1) := by decide +kernel
theorem dX11_lateOrders_30 : decode cX11_lateOrders 30 = .ok (.aload_n 0, 1) := by decide +kernel
theorem dX11_lateOrders_31 : decode cX11_lateOrders 31 = .ok (.getfield 10, 3) := by decide +kernel
theorem dX11_lateOrders_34 : decode cX11_lateOrders 34 = .ok (.getfield 118, 3) := by decide +kernel
theorem dX11_lateOrders_37 : decode cX11_lateOrders 37 = .ok (.aload_n 0, 1) := by decide +kernel
theorem dX11_lateOrders_38 : decode cX11_lateOrders 38 = .ok (.getfield 10, 3) := by decide +kernel
theorem dX11_lateOrders_41 : decode cX11_lateOrders 41 = .ok (.getfield 159, 3) := by decide +kernel
theorem dX11_lateOrders_44 : decode cX11_lateOrders 44 = .ok (.getfield 195, 3) := by decide +kernel
theorem dX11_lateOrders_47 : decode cX11_lateOrders 47 = .ok (.iload_n 2, 1) := by decide +kernel
theorem dX11_lateOrders_48 : decode cX11_lateOrders 48 = .ok (.iaload, 1) := by decide +kernel
theorem dX11_lateOrders_49 : decode cX11_lateOrders 49 = .ok (.aload_n 0, 1) := by decide +kernel
theorem dX11_lateOrders_50 : decode cX11_lateOrders 50 = .ok (.getfield 40, 3) := by decide +kernel
theorem dX11_lateOrders_53 : decode cX11_lateOrders 53 = .ok (.aload_n 0, 1) := by decide +kernel
theorem dX11_lateOrders_54 : decode cX11_lateOrders 54 = .ok (.getfield 10, 3) := by decide +kernel
theorem dX11_lateOrders_57 : decode cX11_lateOrders 57 = .ok (.getfield 79, 3) := by decide +kernel
theorem dX11_lateOrders_60 : decode cX11_lateOrders 60 = .ok (.iload_n 2, 1) := by decide +kernel
theorem dX11_lateOrders_61 : decode cX11_lateOrders 61 = .ok (.invokevirtual 284, 3) := by decide +kernel
theorem dX11_lateOrders_64 : decode cX11_lateOrders 64 = .ok (.invokevirtual 292, 3) := by decide +kernel
theorem dX11_lateOrders_67 : decode cX11_lateOrders 67 = .ok (.ior, 1) := by decide +kernel
theorem dX11_lateOrders_68 : decode cX11_lateOrders 68 = .ok (.istore_n 1, 1) := by decide +kernel
theorem dX11_lateOrders_69 : decode cX11_lateOrders 69 = .ok (.iinc 2 1, 3) := by decide +kernel
theorem dX11_lateOrders_72 : decode cX11_lateOrders 72 = .ok (.goto (-57), 3) := by decide +kernel
theorem dX11_lateOrders_75 : decode cX11_lateOrders 75 = .ok (.iload_n 1, 1) := by decide +kernel
theorem dX11_lateOrders_76 : decode cX11_lateOrders 76 = .ok (.ireturn, 1) := by decide +kernel
noncomputable def s_X11_lateOrders_15  (M : Mem) (x1 : Int) (x2 : Int) : Option ((Int × Int) ⊕ ((Int) ⊕ (Int × Mem))) :=
  (if w32 x2 < w32 (M 17 0) then gi x2 8 (cl1 (f_X7_completion 49 2 x2 M) (fun r_4 => cl1 (f_X5_dueBefore 10 (M 18 (ix x2)) r_4 M) (fun r_6 => bnd (i_or x1 r_6) (fun x1_8 => bnd (x2 + 1) (fun x2_9 => some (.inl (x1_8, x2_9))))))) else some (.inr (.inl x1)))
set_option maxRecDepth 100000 in
set_option maxHeartbeats 4000000 in
theorem ts_X11_lateOrders_15 {X : Cxt} (hX : Gd X RX11 cX11_lateOrders 3 (some .int) 6)  (M : Mem) (x1 : Int) (x2 : Int) {Q : State → Prop} (o : (Int × Int) ⊕ ((Int) ⊕ (Int × Mem))) (h : s_X11_lateOrders_15 M x1 x2 = some o) (hP : ∀ y, o = .inl y → V X 0 0 Q 15 [some (vr (xG X) 0), some (vi y.1), some (vi y.2)] [] M) (hE : ∀ z, o = .inr (.inl z) → V X 0 0 Q 75 [none, some (vi z), none] [] M) (hR : ∀ q, o = .inr (.inr q) → Q = Qn X (some (vi q.1)) q.2) : V X 0 0 Q 15 [some (vr (xG X) 0), some (vi x1), some (vi x2)] [] M := by
  unfold s_X11_lateOrders_15 at h
  refine x_iloadn hX dX11_lateOrders_15 rfl ?_
  refine x_aloadn hX dX11_lateOrders_16 rfl ?_
  refine x_getRj (j := 1) hX dX11_lateOrders_17 fl_X11_10 rfl (st0 (gk hX)) rfl ?_
  refine x_getRj (j := 17) hX dX11_lateOrders_20 fl_X11_159 rfl (st1 (gk hX)) rfl ?_
  refine x_getI hX dX11_lateOrders_23 fl_X11_168 rfl (st17 (gk hX)) ?_
  refine x_icmp_ge (tgt := 75) hX dX11_lateOrders_26 (by decide) rfl rfl (fun hc => ?_) (fun hc => ?_)
  · replace h := (if_pos hc).symm.trans h
    refine x_iloadn hX dX11_lateOrders_29 rfl ?_
    refine x_aloadn hX dX11_lateOrders_30 rfl ?_
    refine x_getRj (j := 1) hX dX11_lateOrders_31 fl_X11_10 rfl (st0 (gk hX)) rfl ?_
    refine x_getRj (j := 10) hX dX11_lateOrders_34 fl_X11_118 rfl (st1 (gk hX)) rfl ?_
    refine x_aloadn hX dX11_lateOrders_37 rfl ?_
    refine x_getRj (j := 1) hX dX11_lateOrders_38 fl_X11_10 rfl (st0 (gk hX)) rfl ?_
    refine x_getRj (j := 17) hX dX11_lateOrders_41 fl_X11_159 rfl (st1 (gk hX)) rfl ?_
    refine x_getRj (j := 18) hX dX11_lateOrders_44 fl_X11_195 rfl (st17 (gk hX)) rfl ?_
    refine x_iloadn hX dX11_lateOrders_47 rfl ?_
    obtain ⟨b_3, h⟩ := gi_of h
    refine x_iald hX dX11_lateOrders_48 (st18 (gk hX)) b_3 rfl ?_
    refine x_aloadn hX dX11_lateOrders_49 rfl ?_
    refine x_getRj (j := 49) hX dX11_lateOrders_50 fl_X11_40 rfl (st0 (gk hX)) rfl ?_
    refine x_aloadn hX dX11_lateOrders_53 rfl ?_
    refine x_getRj (j := 1) hX dX11_lateOrders_54 fl_X11_10 rfl (st0 (gk hX)) rfl ?_
    refine x_getRj (j := 2) hX dX11_lateOrders_57 fl_X11_79 rfl (st1 (gk hX)) rfl ?_
    refine x_iloadn hX dX11_lateOrders_60 rfl ?_
    obtain ⟨r_4, er_4, h⟩ := cl1_of h
    refine x_callVi (t := 7) (As := [vr (xG X) 2, vi x2]) (rest := [vi (M 18 (ix x2)), vr (xG X) 10, vi x1]) hX dX11_lateOrders_61 (c_X7_completion (gk hX) (gl hX) (st49 (gk hX)) (st2 (gk hX)) x2 M _ er_4) kX7_completion vX7_completion w_694 (st49 (gk hX)) rfl rfl rfl rfl (Nat.le_of_ble_eq_true rfl) z0 ?_
    obtain ⟨r_6, er_6, h⟩ := cl1_of h
    refine x_callVi (t := 5) (As := [vi (M 18 (ix x2)), vi r_4]) (rest := [vi x1]) hX dX11_lateOrders_64 (c_X5_dueBefore (gk hX) (gl hX) (st10 (gk hX)) (M 18 (ix x2)) r_4 M _ er_6) kX5_dueBefore vX5_dueBefore w_702 (st10 (gk hX)) rfl rfl rfl rfl (Nat.le_of_ble_eq_true rfl) z0 ?_
    refine x_ior hX dX11_lateOrders_67 ?_
    obtain ⟨x1_8, ex1_8, h⟩ := bnd_of h
    refine x_istoren (ls' := [some (vr (xG X) 0), some (vi x1_8), some (vi x2)]) hX dX11_lateOrders_68 rfl ex1_8 rfl ?_
    obtain ⟨x2_9, ex2_9, h⟩ := bnd_of h
    refine x_iinc (ls' := [some (vr (xG X) 0), some (vi x1_8), some (vi x2_9)]) hX dX11_lateOrders_69 rfl rfl ex2_9 rfl ?_
    refine x_goto (tgt := 15) hX dX11_lateOrders_72 (by decide) ?_
    exact x_weak [true, true, true] rfl (hP (x1_8, x2_9) (Option.some.inj h).symm)
  · replace h := (if_neg hc).symm.trans h
    exact x_weak [false, true, false] rfl (hE x1 (Option.some.inj h).symm)
noncomputable def f_X11_lateOrders  (M : Mem) : Option (Int × Mem) :=
  cl1 (f_X7_runAll 49 1 M) (fun M_2 => lpb (wh (fun x => s_X11_lateOrders_15 M_2 x.1 x.2) (0, 0)) (fun z_10 => some (z_10, M_2)) (fun q => some q))
set_option maxRecDepth 100000 in
set_option maxHeartbeats 4000000 in
theorem c_X11_lateOrders {l : Launch} {G : Gx} (hG : GOK G) (hl : l.stackTraces = false)  (M : Mem) (r : Int) (Mr : Mem) (h : f_X11_lateOrders M = some (r, Mr)) : Cn l G mX11_lateOrders 6 [vr G 0] M (some (vi r)) Mr := by
  refine Cn_of2 (ls := [some (vr G 0), none, none]) hG hl kX11_lateOrders rfl (Nat.le_of_ble_eq_true rfl) rfl rfl rfl rfl rfl (fun X eG el hX => ?_)
  subst eG; subst el
  unfold f_X11_lateOrders at h
  refine x_aloadn hX dX11_lateOrders_0 rfl ?_
  refine x_getRj (j := 49) hX dX11_lateOrders_1 fl_X11_40 rfl (st0 (gk hX)) rfl ?_
  refine x_aloadn hX dX11_lateOrders_4 rfl ?_
  refine x_getRj (j := 1) hX dX11_lateOrders_5 fl_X11_10 rfl (st0 (gk hX)) rfl ?_
  obtain ⟨M_2, er_1, h⟩ := cl1_of h
  refine x_callVv (t := 7) (As := [vr (xG X) 1]) (rest := []) hX dX11_lateOrders_8 (c_X7_runAll (gk hX) (gl hX) (st49 (gk hX)) (st1 (gk hX)) M _ er_1) kX7_runAll vX7_runAll w_671 (st49 (gk hX)) rfl rfl rfl rfl (Nat.le_of_ble_eq_true rfl) z0 ?_
  refine x_iconst hX dX11_lateOrders_11 ?_
  refine x_istoren (ls' := [some (vr (xG X) 0), some (vi 0), none]) hX dX11_lateOrders_12 rfl rfl rfl ?_
  refine x_iconst hX dX11_lateOrders_13 ?_
  refine x_istoren (ls' := [some (vr (xG X) 0), some (vi 0), some (vi 0)]) hX dX11_lateOrders_14 rfl rfl rfl ?_
  refine x_weak (ls' := [some (vr (xG X) 0), some (vi 0), some (vi 0)]) [true, true, true] rfl ?_
  refine lp_use (x := (0, 0)) (P := fun x => V X 0 0 (Qn X (some (vi r)) Mr) 15 [some (vr (xG X) 0), some (vi x.1), some (vi x.2)] [] M_2) (PE := fun z_10 => V X 0 0 (Qn X (some (vi r)) Mr) 75 [none, some (vi z_10), none] [] M_2) (PR := fun q => (Qn X (some (vi r)) Mr) = Qn X (some (vi q.1)) q.2) h (fun x o hh hP hE hR => ts_X11_lateOrders_15 hX M_2 x.1 x.2 o hh hP hE hR) (fun z_10 h => ?_) (fun q h => ?_)
  · show V X 0 0 (Qn X (some (vi r)) Mr) 75 [none, some (vi z_10), none] [] M_2
    refine x_iloadn hX dX11_lateOrders_75 rfl ?_
    cases h
    exact x_iret hX dX11_lateOrders_76 rfl
  · cases h; rfl
theorem dX11_tardinessNow_0 : decode cX11_tardinessNow 0 = .ok (.aload_n 0, 1) := by decide +kernel
theorem dX11_tardinessNow_1 : decode cX11_tardinessNow 1 = .ok (.getfield 40, 3) := by decide +kernel
theorem dX11_tardinessNow_4 : decode cX11_tardinessNow 4 = .ok (.aload_n 0, 1) := by decide +kernel
theorem dX11_tardinessNow_5 : decode cX11_tardinessNow 5 = .ok (.getfield 10, 3) := by decide +kernel
theorem dX11_tardinessNow_8 : decode cX11_tardinessNow 8 = .ok (.invokevirtual 275, 3) := by decide +kernel
theorem dX11_tardinessNow_11 : decode cX11_tardinessNow 11 = .ok (.iconst 0, 1) := by decide +kernel
theorem dX11_tardinessNow_12 : decode cX11_tardinessNow 12 = .ok (.istore_n 1, 1) := by decide +kernel
theorem dX11_tardinessNow_13 : decode cX11_tardinessNow 13 = .ok (.iconst 0, 1) := by decide +kernel
theorem dX11_tardinessNow_14 : decode cX11_tardinessNow 14 = .ok (.istore_n 2, 1) := by decide +kernel
theorem dX11_tardinessNow_15 : decode cX11_tardinessNow 15 = .ok (.iload_n 2, 1) := by decide +kernel
theorem dX11_tardinessNow_16 : decode cX11_tardinessNow 16 = .ok (.aload_n 0, 1) := by decide +kernel
theorem dX11_tardinessNow_17 : decode cX11_tardinessNow 17 = .ok (.getfield 10, 3) := by decide +kernel
theorem dX11_tardinessNow_20 : decode cX11_tardinessNow 20 = .ok (.getfield 159, 3) := by decide +kernel
theorem dX11_tardinessNow_23 : decode cX11_tardinessNow 23 = .ok (.getfield 168, 3) := by decide +kernel
theorem dX11_tardinessNow_26 : decode cX11_tardinessNow 26 = .ok (.if_icmp .ge 35, 3) := by decide +kernel
theorem dX11_tardinessNow_29 : decode cX11_tardinessNow 29 = .ok (.iload_n 1, 1) := by decide +kernel
theorem dX11_tardinessNow_30 : decode cX11_tardinessNow 30 = .ok (.aload_n 0, 1) := by decide +kernel
theorem dX11_tardinessNow_31 : decode cX11_tardinessNow 31 = .ok (.getfield 10, 3) := by decide +kernel
theorem dX11_tardinessNow_34 : decode cX11_tardinessNow 34 = .ok (.iload_n 2, 1) := by decide +kernel
theorem dX11_tardinessNow_35 : decode cX11_tardinessNow 35 = .ok (.aload_n 0, 1) := by decide +kernel
theorem dX11_tardinessNow_36 : decode cX11_tardinessNow 36 = .ok (.getfield 40, 3) := by decide +kernel
theorem dX11_tardinessNow_39 : decode cX11_tardinessNow 39 = .ok (.aload_n 0, 1) := by decide +kernel
theorem dX11_tardinessNow_40 : decode cX11_tardinessNow 40 = .ok (.getfield 10, 3) := by decide +kernel
theorem dX11_tardinessNow_43 : decode cX11_tardinessNow 43 = .ok (.getfield 79, 3) := by decide +kernel
theorem dX11_tardinessNow_46 : decode cX11_tardinessNow 46 = .ok (.iload_n 2, 1) := by decide +kernel
theorem dX11_tardinessNow_47 : decode cX11_tardinessNow 47 = .ok (.invokevirtual 284, 3) := by decide +kernel
theorem dX11_tardinessNow_50 : decode cX11_tardinessNow 50 = .ok (.invokevirtual 365, 3) := by decide +kernel
theorem dX11_tardinessNow_53 : decode cX11_tardinessNow 53 = .ok (.iadd, 1) := by decide +kernel
theorem dX11_tardinessNow_54 : decode cX11_tardinessNow 54 = .ok (.istore_n 1, 1) := by decide +kernel
theorem dX11_tardinessNow_55 : decode cX11_tardinessNow 55 = .ok (.iinc 2 1, 3) := by decide +kernel
theorem dX11_tardinessNow_58 : decode cX11_tardinessNow 58 = .ok (.goto (-43), 3) := by decide +kernel
theorem dX11_tardinessNow_61 : decode cX11_tardinessNow 61 = .ok (.iload_n 1, 1) := by decide +kernel
theorem dX11_tardinessNow_62 : decode cX11_tardinessNow 62 = .ok (.ireturn, 1) := by decide +kernel
noncomputable def s_X11_tardinessNow_15  (M : Mem) (x1 : Int) (x2 : Int) : Option ((Int × Int) ⊕ ((Int) ⊕ (Int × Mem))) :=
  (if w32 x2 < w32 (M 17 0) then cl1 (f_X7_completion 49 2 x2 M) (fun r_3 => cl1 (f_X1_tardinessOf 1 x2 r_3 M) (fun r_5 => bnd (x1 + r_5) (fun x1_7 => bnd (x2 + 1) (fun x2_8 => some (.inl (x1_7, x2_8)))))) else some (.inr (.inl x1)))
set_option maxRecDepth 100000 in
set_option maxHeartbeats 4000000 in
theorem ts_X11_tardinessNow_15 {X : Cxt} (hX : Gd X RX11 cX11_tardinessNow 3 (some .int) 6)  (M : Mem) (x1 : Int) (x2 : Int) {Q : State → Prop} (o : (Int × Int) ⊕ ((Int) ⊕ (Int × Mem))) (h : s_X11_tardinessNow_15 M x1 x2 = some o) (hP : ∀ y, o = .inl y → V X 0 0 Q 15 [some (vr (xG X) 0), some (vi y.1), some (vi y.2)] [] M) (hE : ∀ z, o = .inr (.inl z) → V X 0 0 Q 61 [none, some (vi z), none] [] M) (hR : ∀ q, o = .inr (.inr q) → Q = Qn X (some (vi q.1)) q.2) : V X 0 0 Q 15 [some (vr (xG X) 0), some (vi x1), some (vi x2)] [] M := by
  unfold s_X11_tardinessNow_15 at h
  refine x_iloadn hX dX11_tardinessNow_15 rfl ?_
  refine x_aloadn hX dX11_tardinessNow_16 rfl ?_
  refine x_getRj (j := 1) hX dX11_tardinessNow_17 fl_X11_10 rfl (st0 (gk hX)) rfl ?_
  refine x_getRj (j := 17) hX dX11_tardinessNow_20 fl_X11_159 rfl (st1 (gk hX)) rfl ?_
  refine x_getI hX dX11_tardinessNow_23 fl_X11_168 rfl (st17 (gk hX)) ?_
  refine x_icmp_ge (tgt := 61) hX dX11_tardinessNow_26 (by decide) rfl rfl (fun hc => ?_) (fun hc => ?_)
  · replace h := (if_pos hc).symm.trans h
    refine x_iloadn hX dX11_tardinessNow_29 rfl ?_
    refine x_aloadn hX dX11_tardinessNow_30 rfl ?_
    refine x_getRj (j := 1) hX dX11_tardinessNow_31 fl_X11_10 rfl (st0 (gk hX)) rfl ?_
    refine x_iloadn hX dX11_tardinessNow_34 rfl ?_
    refine x_aloadn hX dX11_tardinessNow_35 rfl ?_
    refine x_getRj (j := 49) hX dX11_tardinessNow_36 fl_X11_40 rfl (st0 (gk hX)) rfl ?_
    refine x_aloadn hX dX11_tardinessNow_39 rfl ?_
    refine x_getRj (j := 1) hX dX11_tardinessNow_40 fl_X11_10 rfl (st0 (gk hX)) rfl ?_
    refine x_getRj (j := 2) hX dX11_tardinessNow_43 fl_X11_79 rfl (st1 (gk hX)) rfl ?_
    refine x_iloadn hX dX11_tardinessNow_46 rfl ?_
    obtain ⟨r_3, er_3, h⟩ := cl1_of h
    refine x_callVi (t := 7) (As := [vr (xG X) 2, vi x2]) (rest := [vi x2, vr (xG X) 1, vi x1]) hX dX11_tardinessNow_47 (c_X7_completion (gk hX) (gl hX) (st49 (gk hX)) (st2 (gk hX)) x2 M _ er_3) kX7_completion vX7_completion w_694 (st49 (gk hX)) rfl rfl rfl rfl (Nat.le_of_ble_eq_true rfl) z0 ?_
    obtain ⟨r_5, er_5, h⟩ := cl1_of h
    refine x_callVi (t := 1) (As := [vi x2, vi r_3]) (rest := [vi x1]) hX dX11_tardinessNow_50 (c_X1_tardinessOf (gk hX) (gl hX) (st1 (gk hX)) x2 r_3 M _ er_5) kX1_tardinessOf vX1_tardinessOf w_714 (st1 (gk hX)) rfl rfl rfl rfl (Nat.le_of_ble_eq_true rfl) z0 ?_
    refine x_iadd hX dX11_tardinessNow_53 ?_
    obtain ⟨x1_7, ex1_7, h⟩ := bnd_of h
    refine x_istoren (ls' := [some (vr (xG X) 0), some (vi x1_7), some (vi x2)]) hX dX11_tardinessNow_54 rfl ex1_7 rfl ?_
    obtain ⟨x2_8, ex2_8, h⟩ := bnd_of h
    refine x_iinc (ls' := [some (vr (xG X) 0), some (vi x1_7), some (vi x2_8)]) hX dX11_tardinessNow_55 rfl rfl ex2_8 rfl ?_
    refine x_goto (tgt := 15) hX dX11_tardinessNow_58 (by decide) ?_
    exact x_weak [true, true, true] rfl (hP (x1_7, x2_8) (Option.some.inj h).symm)
  · replace h := (if_neg hc).symm.trans h
    exact x_weak [false, true, false] rfl (hE x1 (Option.some.inj h).symm)
noncomputable def f_X11_tardinessNow  (M : Mem) : Option (Int × Mem) :=
  cl1 (f_X7_runAll 49 1 M) (fun M_2 => lpb (wh (fun x => s_X11_tardinessNow_15 M_2 x.1 x.2) (0, 0)) (fun z_9 => some (z_9, M_2)) (fun q => some q))
set_option maxRecDepth 100000 in
set_option maxHeartbeats 4000000 in
theorem c_X11_tardinessNow {l : Launch} {G : Gx} (hG : GOK G) (hl : l.stackTraces = false)  (M : Mem) (r : Int) (Mr : Mem) (h : f_X11_tardinessNow M = some (r, Mr)) : Cn l G mX11_tardinessNow 6 [vr G 0] M (some (vi r)) Mr := by
  refine Cn_of2 (ls := [some (vr G 0), none, none]) hG hl kX11_tardinessNow rfl (Nat.le_of_ble_eq_true rfl) rfl rfl rfl rfl rfl (fun X eG el hX => ?_)
  subst eG; subst el
  unfold f_X11_tardinessNow at h
  refine x_aloadn hX dX11_tardinessNow_0 rfl ?_
  refine x_getRj (j := 49) hX dX11_tardinessNow_1 fl_X11_40 rfl (st0 (gk hX)) rfl ?_
  refine x_aloadn hX dX11_tardinessNow_4 rfl ?_
  refine x_getRj (j := 1) hX dX11_tardinessNow_5 fl_X11_10 rfl (st0 (gk hX)) rfl ?_
  obtain ⟨M_2, er_1, h⟩ := cl1_of h
  refine x_callVv (t := 7) (As := [vr (xG X) 1]) (rest := []) hX dX11_tardinessNow_8 (c_X7_runAll (gk hX) (gl hX) (st49 (gk hX)) (st1 (gk hX)) M _ er_1) kX7_runAll vX7_runAll w_671 (st49 (gk hX)) rfl rfl rfl rfl (Nat.le_of_ble_eq_true rfl) z0 ?_
  refine x_iconst hX dX11_tardinessNow_11 ?_
  refine x_istoren (ls' := [some (vr (xG X) 0), some (vi 0), none]) hX dX11_tardinessNow_12 rfl rfl rfl ?_
  refine x_iconst hX dX11_tardinessNow_13 ?_
  refine x_istoren (ls' := [some (vr (xG X) 0), some (vi 0), some (vi 0)]) hX dX11_tardinessNow_14 rfl rfl rfl ?_
  refine x_weak (ls' := [some (vr (xG X) 0), some (vi 0), some (vi 0)]) [true, true, true] rfl ?_
  refine lp_use (x := (0, 0)) (P := fun x => V X 0 0 (Qn X (some (vi r)) Mr) 15 [some (vr (xG X) 0), some (vi x.1), some (vi x.2)] [] M_2) (PE := fun z_9 => V X 0 0 (Qn X (some (vi r)) Mr) 61 [none, some (vi z_9), none] [] M_2) (PR := fun q => (Qn X (some (vi r)) Mr) = Qn X (some (vi q.1)) q.2) h (fun x o hh hP hE hR => ts_X11_tardinessNow_15 hX M_2 x.1 x.2 o hh hP hE hR) (fun z_9 h => ?_) (fun q h => ?_)
  · show V X 0 0 (Qn X (some (vi r)) Mr) 61 [none, some (vi z_9), none] [] M_2
    refine x_iloadn hX dX11_tardinessNow_61 rfl ?_
    cases h
    exact x_iret hX dX11_tardinessNow_62 rfl
  · cases h; rfl
