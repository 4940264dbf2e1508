-- written by wip/gen/emit.py: X0_takeFrom, X1_copyFrom, X1_weightOfAll, X1_openBatch, X1_pickFirstBatch, X3_build, X5_shortInAll, X5_pickedOfDone, X5_repeatShort, X6_survey, X6_itemsIn, X6_findAisles, X6_largestGapCost, X6_planCombined, X6_visitUp, X6_visitDown
theorem dX0_takeFrom_0 : decode cX0_takeFrom 0 = .ok (.aload_n 0, 1) := by decide +kernel
theorem dX0_takeFrom_1 : decode cX0_takeFrom 1 = .ok (.getfield 9, 3) := by decide +kernel
theorem dX0_takeFrom_4 : decode cX0_takeFrom 4 = .ok (.iload_n 1, 1) := by decide +kernel
theorem dX0_takeFrom_5 : decode cX0_takeFrom 5 = .ok (.dup2, 1) := by decide +kernel
theorem dX0_takeFrom_6 : decode cX0_takeFrom 6 = .ok (.iaload, 1) := by decide +kernel
theorem dX0_takeFrom_7 : decode cX0_takeFrom 7 = .ok (.iconst 1, 1) := by decide +kernel
theorem dX0_takeFrom_8 : decode cX0_takeFrom 8 = .ok (.iload_n 2, 1) := by decide +kernel
theorem dX0_takeFrom_9 : decode cX0_takeFrom 9 = .ok (.ishl, 1) := by decide +kernel
theorem dX0_takeFrom_10 : decode cX0_takeFrom 10 = .ok (.iconst (-1), 1) := by decide +kernel
theorem dX0_takeFrom_11 : decode cX0_takeFrom 11 = .ok (.ixor, 1) := by decide +kernel
theorem dX0_takeFrom_12 : decode cX0_takeFrom 12 = .ok (.iand, 1) := by decide +kernel
theorem dX0_takeFrom_13 : decode cX0_takeFrom 13 = .ok (.iastore, 1) := by decide +kernel
theorem dX0_takeFrom_14 : decode cX0_takeFrom 14 = .ok (.aload_n 0, 1) := by decide +kernel
theorem dX0_takeFrom_15 : decode cX0_takeFrom 15 = .ok (.getfield 9, 3) := by decide +kernel
theorem dX0_takeFrom_18 : decode cX0_takeFrom 18 = .ok (.iload_n 1, 1) := by decide +kernel
theorem dX0_takeFrom_19 : decode cX0_takeFrom 19 = .ok (.iaload, 1) := by decide +kernel
theorem dX0_takeFrom_20 : decode cX0_takeFrom 20 = .ok (.ifCond .ne 8, 3) := by decide +kernel
theorem dX0_takeFrom_23 : decode cX0_takeFrom 23 = .ok (.aload_n 0, 1) := by decide +kernel
theorem dX0_takeFrom_24 : decode cX0_takeFrom 24 = .ok (.iload_n 1, 1) := by decide +kernel
theorem dX0_takeFrom_25 : decode cX0_takeFrom 25 = .ok (.invokevirtual 27, 3) := by decide +kernel
theorem dX0_takeFrom_28 : decode cX0_takeFrom 28 = .ok (.return_, 1) := by decide +kernel
noncomputable def f_X0_takeFrom (th : Nat) (x1 : Int) (x2 : Int) (M : Mem) : Option (Mem) :=
  gi x1 8 (gi x1 8 (bnd (upd2 M (th + 1) (ix x1) (i_and (M (th + 1) (ix x1)) (i_xor (i_shl 1 x2) (-1)))) (fun M_2 => gi x1 8 ((if w32 (M_2 (th + 1) (ix x1)) = 0 then cl1 (f_X0_drop th x1 M_2) (fun M_6 => some M_6) else some M_2)))))
set_option maxRecDepth 100000 in
set_option maxHeartbeats 4000000 in
theorem c_X0_takeFrom {l : Launch} {G : Gx} (hG : GOK G) (hl : l.stackTraces = false) {th : Nat} (h0 : at_ G th 10 0) (x1 : Int) (x2 : Int) (M : Mem) (Mr : Mem) (h : f_X0_takeFrom th x1 x2 M = some Mr) : Cn l G mX0_takeFrom 2 [vr G th, vi x1, vi x2] M none Mr := by
  refine Cn_of2 (ls := [some (vr G th), some (vi x1), some (vi x2)]) hG hl kX0_takeFrom rfl (Nat.le_of_ble_eq_true rfl) rfl rfl rfl rfl rfl (fun X eG el hX => ?_)
  subst eG; subst el
  unfold f_X0_takeFrom at h
  refine x_aloadn hX dX0_takeFrom_0 rfl ?_
  refine x_getRj (j := th + 1) hX dX0_takeFrom_1 fl_X0_9 rfl h0 rfl ?_
  refine x_iloadn hX dX0_takeFrom_4 rfl ?_
  refine x_dup2 hX dX0_takeFrom_5 rfl rfl ?_
  obtain ⟨b_1, h⟩ := gi_of h
  refine x_iald hX dX0_takeFrom_6 (fo_0_1 (gk hX) h0) b_1 rfl ?_
  refine x_iconst hX dX0_takeFrom_7 ?_
  refine x_iloadn hX dX0_takeFrom_8 rfl ?_
  refine x_ishl hX dX0_takeFrom_9 ?_
  refine x_iconst hX dX0_takeFrom_10 ?_
  refine x_ixor hX dX0_takeFrom_11 ?_
  refine x_iand hX dX0_takeFrom_12 ?_
  obtain ⟨b_3, h⟩ := gi_of h
  obtain ⟨M_2, eM_2, h⟩ := bnd_of h
  refine x_iast hX dX0_takeFrom_13 (fo_0_1 (gk hX) h0) b_3 rfl (x_meq eM_2 ?_)
  refine x_aloadn hX dX0_takeFrom_14 rfl ?_
  refine x_getRj (j := th + 1) hX dX0_takeFrom_15 fl_X0_9 rfl h0 rfl ?_
  refine x_iloadn hX dX0_takeFrom_18 rfl ?_
  obtain ⟨b_4, h⟩ := gi_of h
  refine x_iald hX dX0_takeFrom_19 (fo_0_1 (gk hX) h0) b_4 rfl ?_
  refine x_if_ne (tgt := 28) hX dX0_takeFrom_20 (by decide) rfl (fun hc => ?_) (fun hc => ?_)
  · replace h := (if_pos hc).symm.trans h
    refine x_aloadn hX dX0_takeFrom_23 rfl ?_
    refine x_iloadn hX dX0_takeFrom_24 rfl ?_
    obtain ⟨M_6, er_5, h⟩ := cl1_of h
    refine x_callVv (t := 0) (As := [vi x1]) (rest := []) hX dX0_takeFrom_25 (c_X0_drop (gk hX) (gl hX) h0 x1 M_2 _ er_5) kX0_drop vX0_drop w_1204 h0 rfl rfl rfl rfl (Nat.le_of_ble_eq_true rfl) z0 ?_
    cases h
    exact x_vret hX dX0_takeFrom_28 rfl
  · replace h := (if_neg hc).symm.trans h
    cases h
    exact x_vret hX dX0_takeFrom_28 rfl
theorem dX1_copyFrom_0 : decode cX1_copyFrom 0 = .ok (.aload_n 0, 1) := by decide +kernel
theorem dX1_copyFrom_1 : decode cX1_copyFrom 1 = .ok (.getfield 12, 3) := by decide +kernel
theorem dX1_copyFrom_4 : decode cX1_copyFrom 4 = .ok (.aload_n 1, 1) := by decide +kernel
theorem dX1_copyFrom_5 : decode cX1_copyFrom 5 = .ok (.getfield 12, 3) := by decide +kernel
theorem dX1_copyFrom_8 : decode cX1_copyFrom 8 = .ok (.invokevirtual 51, 3) := by decide +kernel
theorem dX1_copyFrom_11 : decode cX1_copyFrom 11 = .ok (.aload_n 0, 1) := by decide +kernel
theorem dX1_copyFrom_12 : decode cX1_copyFrom 12 = .ok (.getfield 21, 3) := by decide +kernel
theorem dX1_copyFrom_15 : decode cX1_copyFrom 15 = .ok (.aload_n 1, 1) := by decide +kernel
theorem dX1_copyFrom_16 : decode cX1_copyFrom 16 = .ok (.getfield 21, 3) := by decide +kernel
theorem dX1_copyFrom_19 : decode cX1_copyFrom 19 = .ok (.invokevirtual 55, 3) := by decide +kernel
theorem dX1_copyFrom_22 : decode cX1_copyFrom 22 = .ok (.aload_n 0, 1) := by decide +kernel
theorem dX1_copyFrom_23 : decode cX1_copyFrom 23 = .ok (.getfield 28, 3) := by decide +kernel
theorem dX1_copyFrom_26 : decode cX1_copyFrom 26 = .ok (.aload_n 1, 1) := by decide +kernel
theorem dX1_copyFrom_27 : decode cX1_copyFrom 27 = .ok (.getfield 28, 3) := by decide +kernel
theorem dX1_copyFrom_30 : decode cX1_copyFrom 30 = .ok (.invokevirtual 58, 3) := by decide +kernel
theorem dX1_copyFrom_33 : decode cX1_copyFrom 33 = .ok (.aload_n 0, 1) := by decide +kernel
theorem dX1_copyFrom_34 : decode cX1_copyFrom 34 = .ok (.getfield 35, 3) := by decide +kernel
theorem dX1_copyFrom_37 : decode cX1_copyFrom 37 = .ok (.aload_n 1, 1) := by decide +kernel
theorem dX1_copyFrom_38 : decode cX1_copyFrom 38 = .ok (.getfield 35, 3) := by decide +kernel
theorem dX1_copyFrom_41 : decode cX1_copyFrom 41 = .ok (.invokevirtual 61, 3) := by decide +kernel
theorem dX1_copyFrom_44 : decode cX1_copyFrom 44 = .ok (.return_, 1) := by decide +kernel
noncomputable def f_X1_copyFrom (th : Nat) (a1 : Nat) (M : Mem) : Option (Mem) :=
  cl1 (f_X3_copyFrom (th + 1) (a1 + 1) M) (fun M_2 => cl1 (f_X2_copyFrom (th + 4) (a1 + 4) M_2) (fun M_4 => cl1 (f_X5_copyFrom (th + 9) (a1 + 9) M_4) (fun M_6 => cl1 (f_X0_copyFrom (th + 16) (a1 + 16) M_6) (fun M_8 => some M_8))))
set_option maxRecDepth 100000 in
set_option maxHeartbeats 4000000 in
theorem c_X1_copyFrom {l : Launch} {G : Gx} (hG : GOK G) (hl : l.stackTraces = false) {th : Nat} (h0 : at_ G th 11 0) {a1 : Nat} (h1 : at_ G a1 11 0) (M : Mem) (Mr : Mem) (h : f_X1_copyFrom th a1 M = some Mr) : Cn l G mX1_copyFrom 2 [vr G th, vr G a1] M none Mr := by
  refine Cn_of2 (ls := [some (vr G th), some (vr G a1)]) hG hl kX1_copyFrom rfl (Nat.le_of_ble_eq_true rfl) rfl rfl rfl rfl rfl (fun X eG el hX => ?_)
  subst eG; subst el
  unfold f_X1_copyFrom at h
  refine x_aloadn hX dX1_copyFrom_0 rfl ?_
  refine x_getRj (j := th + 1) hX dX1_copyFrom_1 fl_X1_12 rfl h0 rfl ?_
  refine x_aloadn hX dX1_copyFrom_4 rfl ?_
  refine x_getRj (j := a1 + 1) hX dX1_copyFrom_5 fl_X1_12 rfl h1 rfl ?_
  obtain ⟨M_2, er_1, h⟩ := cl1_of h
  refine x_callVv (t := 3) (As := [vr (xG X) (a1 + 1)]) (rest := []) hX dX1_copyFrom_8 (c_X3_copyFrom (gk hX) (gl hX) (fo_1_0 (gk hX) h0) (fo_1_0 (gk hX) h1) M _ er_1) kX3_copyFrom vX3_copyFrom w_926 (fo_1_0 (gk hX) h0) rfl rfl rfl rfl (Nat.le_of_ble_eq_true rfl) z0 ?_
  refine x_aloadn hX dX1_copyFrom_11 rfl ?_
  refine x_getRj (j := th + 4) hX dX1_copyFrom_12 fl_X1_21 rfl h0 rfl ?_
  refine x_aloadn hX dX1_copyFrom_15 rfl ?_
  refine x_getRj (j := a1 + 4) hX dX1_copyFrom_16 fl_X1_21 rfl h1 rfl ?_
  obtain ⟨M_4, er_3, h⟩ := cl1_of h
  refine x_callVv (t := 2) (As := [vr (xG X) (a1 + 4)]) (rest := []) hX dX1_copyFrom_19 (c_X2_copyFrom (gk hX) (gl hX) (fo_1_1 (gk hX) h0) (fo_1_1 (gk hX) h1) M_2 _ er_3) kX2_copyFrom vX2_copyFrom w_933 (fo_1_1 (gk hX) h0) rfl rfl rfl rfl (Nat.le_of_ble_eq_true rfl) z0 ?_
  refine x_aloadn hX dX1_copyFrom_22 rfl ?_
  refine x_getRj (j := th + 9) hX dX1_copyFrom_23 fl_X1_28 rfl h0 rfl ?_
  refine x_aloadn hX dX1_copyFrom_26 rfl ?_
  refine x_getRj (j := a1 + 9) hX dX1_copyFrom_27 fl_X1_28 rfl h1 rfl ?_
  obtain ⟨M_6, er_5, h⟩ := cl1_of h
  refine x_callVv (t := 5) (As := [vr (xG X) (a1 + 9)]) (rest := []) hX dX1_copyFrom_30 (c_X5_copyFrom (gk hX) (gl hX) (fo_1_2 (gk hX) h0) (fo_1_2 (gk hX) h1) M_4 _ er_5) kX5_copyFrom vX5_copyFrom w_938 (fo_1_2 (gk hX) h0) rfl rfl rfl rfl (Nat.le_of_ble_eq_true rfl) z0 ?_
  refine x_aloadn hX dX1_copyFrom_33 rfl ?_
  refine x_getRj (j := th + 16) hX dX1_copyFrom_34 fl_X1_35 rfl h0 rfl ?_
  refine x_aloadn hX dX1_copyFrom_37 rfl ?_
  refine x_getRj (j := a1 + 16) hX dX1_copyFrom_38 fl_X1_35 rfl h1 rfl ?_
  obtain ⟨M_8, er_7, h⟩ := cl1_of h
  refine x_callVv (t := 0) (As := [vr (xG X) (a1 + 16)]) (rest := []) hX dX1_copyFrom_41 (c_X0_copyFrom (gk hX) (gl hX) (fo_1_3 (gk hX) h0) (fo_1_3 (gk hX) h1) M_6 _ er_7) kX0_copyFrom vX0_copyFrom w_943 (fo_1_3 (gk hX) h0) rfl rfl rfl rfl (Nat.le_of_ble_eq_true rfl) z0 ?_
  cases h
  exact x_vret hX dX1_copyFrom_44 rfl
theorem dX1_weightOfAll_0 : decode cX1_weightOfAll 0 = .ok (.iconst 0, 1) := by decide +kernel
theorem dX1_weightOfAll_1 : decode cX1_weightOfAll 1 = .ok (.istore_n 2, 1) := by decide +kernel
theorem dX1_weightOfAll_2 : decode cX1_weightOfAll 2 = .ok (.iconst 0, 1) := by decide +kernel
theorem dX1_weightOfAll_3 : decode cX1_weightOfAll 3 = .ok (.istore_n 3, 1) := by decide +kernel
theorem dX1_weightOfAll_4 : decode cX1_weightOfAll 4 = .ok (.iload_n 3, 1) := by decide +kernel
theorem dX1_weightOfAll_5 : decode cX1_weightOfAll 5 = .ok (.aload_n 0, 1) := by decide +kernel
theorem dX1_weightOfAll_6 : decode cX1_weightOfAll 6 = .ok (.getfield 28, 3) := by decide +kernel
theorem dX1_weightOfAll_9 : decode cX1_weightOfAll 9 = .ok (.getfield 46, 3) := by decide +kernel
theorem dX1_weightOfAll_12 : decode cX1_weightOfAll 12 = .ok (.if_icmp .ge 25, 3) := by decide +kernel
theorem dX1_weightOfAll_15 : decode cX1_weightOfAll 15 = .ok (.iload_n 1, 1) := by decide +kernel
theorem dX1_weightOfAll_16 : decode cX1_weightOfAll 16 = .ok (.iload_n 3, 1) := by decide +kernel
theorem dX1_weightOfAll_17 : decode cX1_weightOfAll 17 = .ok (.ishr, 1) := by decide +kernel
theorem dX1_weightOfAll_18 : decode cX1_weightOfAll 18 = .ok (.iconst 1, 1) := by decide +kernel
theorem dX1_weightOfAll_19 : decode cX1_weightOfAll 19 = .ok (.iand, 1) := by decide +kernel
theorem dX1_weightOfAll_20 : decode cX1_weightOfAll 20 = .ok (.ifCond .eq 11, 3) := by decide +kernel
theorem dX1_weightOfAll_23 : decode cX1_weightOfAll 23 = .ok (.iload_n 2, 1) := by decide +kernel
theorem dX1_weightOfAll_24 : decode cX1_weightOfAll 24 = .ok (.aload_n 0, 1) := by decide +kernel
theorem dX1_weightOfAll_25 : decode cX1_weightOfAll 25 = .ok (.iload_n 3, 1) := by decide +kernel
theorem dX1_weightOfAll_26 : decode cX1_weightOfAll 26 = .ok (.invokevirtual 77, 3) := by decide +kernel
theorem dX1_weightOfAll_29 : decode cX1_weightOfAll 29 = .ok (.iadd, 1) := by decide +kernel
theorem dX1_weightOfAll_30 : decode cX1_weightOfAll 30 = .ok (.istore_n 2, 1) := by decide +kernel
theorem dX1_weightOfAll_31 : decode cX1_weightOfAll 31 = .ok (.iinc 3 1, 3) := by decide +kernel
theorem dX1_weightOfAll_34 : decode cX1_weightOfAll 34 = .ok (.goto (-30), 3) := by decide +kernel
theorem dX1_weightOfAll_37 : decode cX1_weightOfAll 37 = .ok (.iload_n 2, 1) := by decide +kernel
theorem dX1_weightOfAll_38 : decode cX1_weightOfAll 38 = .ok (.ireturn, 1) := by decide +kernel
noncomputable def j_X1_weightOfAll_31_4 (th : Nat)  (x1 : Int) (x2 : Int) (x3 : Int) (M : Mem) : Option ((Int × Int) ⊕ ((Int) ⊕ (Int))) :=
  bnd (x3 + 1) (fun x3_1 => some (.inl (x2, x3_1)))
set_option maxRecDepth 100000 in
set_option maxHeartbeats 4000000 in
theorem tj_X1_weightOfAll_31_4 {X : Cxt} (hX : Gd X RX1 cX1_weightOfAll 4 (some .int) 2) {th : Nat} (h0 : at_ (xG X) th 11 0)  (x1 : Int) (x2 : Int) (x3 : Int) (M : Mem) {Q : State → Prop} (o : (Int × Int) ⊕ ((Int) ⊕ (Int))) (h : j_X1_weightOfAll_31_4 th x1 x2 x3 M = some o) (hP : ∀ y, o = .inl y → V X 0 0 Q 4 [some (vr (xG X) th), some (vi x1), some (vi y.1), some (vi y.2)] [] M) (hE : ∀ z, o = .inr (.inl z) → V X 0 0 Q 37 [none, none, some (vi z), none] [] M) (hR : ∀ q, o = .inr (.inr q) → Q = Qn X (some (vi q)) M) : V X 0 0 Q 31 [some (vr (xG X) th), some (vi x1), some (vi x2), some (vi x3)] [] M := by
  unfold j_X1_weightOfAll_31_4 at h
  obtain ⟨x3_1, ex3_1, h⟩ := bnd_of h
  refine x_iinc (ls' := [some (vr (xG X) th), some (vi x1), some (vi x2), some (vi x3_1)]) hX dX1_weightOfAll_31 rfl rfl ex3_1 rfl ?_
  refine x_goto (tgt := 4) hX dX1_weightOfAll_34 (by decide) ?_
  exact x_weak [true, true, true, true] rfl (hP (x2, x3_1) (Option.some.inj h).symm)
noncomputable def s_X1_weightOfAll_4 (th : Nat) (x1 : Int) (M : Mem) (x2 : Int) (x3 : Int) : Option ((Int × Int) ⊕ ((Int) ⊕ (Int))) :=
  (if w32 x3 < w32 (M (th + 9) 0) then (if w32 (i_and (i_shr x1 x3) 1) = 0 then j_X1_weightOfAll_31_4 th x1 x2 x3 M else cl1 (f_X1_weightOf th x3 M) (fun r_2 => bnd (x2 + r_2) (fun x2_4 => j_X1_weightOfAll_31_4 th x1 x2_4 x3 M))) else some (.inr (.inl x2)))
set_option maxRecDepth 100000 in
set_option maxHeartbeats 4000000 in
theorem ts_X1_weightOfAll_4 {X : Cxt} (hX : Gd X RX1 cX1_weightOfAll 4 (some .int) 2) {th : Nat} (h0 : at_ (xG X) th 11 0) (x1 : Int) (M : Mem) (x2 : Int) (x3 : Int) {Q : State → Prop} (o : (Int × Int) ⊕ ((Int) ⊕ (Int))) (h : s_X1_weightOfAll_4 th x1 M x2 x3 = some o) (hP : ∀ y, o = .inl y → V X 0 0 Q 4 [some (vr (xG X) th), some (vi x1), some (vi y.1), some (vi y.2)] [] M) (hE : ∀ z, o = .inr (.inl z) → V X 0 0 Q 37 [none, none, some (vi z), none] [] M) (hR : ∀ q, o = .inr (.inr q) → Q = Qn X (some (vi q)) M) : V X 0 0 Q 4 [some (vr (xG X) th), some (vi x1), some (vi x2), some (vi x3)] [] M := by
  unfold s_X1_weightOfAll_4 at h
  refine x_iloadn hX dX1_weightOfAll_4 rfl ?_
  refine x_aloadn hX dX1_weightOfAll_5 rfl ?_
  refine x_getRj (j := th + 9) hX dX1_weightOfAll_6 fl_X1_28 rfl h0 rfl ?_
  refine x_getI hX dX1_weightOfAll_9 fl_X1_46 rfl (fo_1_2 (gk hX) h0) ?_
  refine x_icmp_ge (tgt := 37) hX dX1_weightOfAll_12 (by decide) rfl rfl (fun hc => ?_) (fun hc => ?_)
  · replace h := (if_pos hc).symm.trans h
    refine x_iloadn hX dX1_weightOfAll_15 rfl ?_
    refine x_iloadn hX dX1_weightOfAll_16 rfl ?_
    refine x_ishr hX dX1_weightOfAll_17 ?_
    refine x_iconst hX dX1_weightOfAll_18 ?_
    refine x_iand hX dX1_weightOfAll_19 ?_
    refine x_if_eq (tgt := 31) hX dX1_weightOfAll_20 (by decide) rfl (fun hc => ?_) (fun hc => ?_)
    · replace h := (if_pos hc).symm.trans h
      exact x_weak [true, true, true, true] rfl (tj_X1_weightOfAll_31_4 hX h0 x1 x2 x3 M o h hP hE hR)
    · replace h := (if_neg hc).symm.trans h
      refine x_iloadn hX dX1_weightOfAll_23 rfl ?_
      refine x_aloadn hX dX1_weightOfAll_24 rfl ?_
      refine x_iloadn hX dX1_weightOfAll_25 rfl ?_
      obtain ⟨r_2, er_2, h⟩ := cl1_of h
      refine x_callVi (t := 1) (As := [vi x3]) (rest := [vi x2]) hX dX1_weightOfAll_26 (c_X1_weightOf (gk hX) (gl hX) h0 x3 M _ er_2) kX1_weightOf vX1_weightOf w_1250 h0 rfl rfl rfl rfl (Nat.le_of_ble_eq_true rfl) z0 ?_
      refine x_iadd hX dX1_weightOfAll_29 ?_
      obtain ⟨x2_4, ex2_4, h⟩ := bnd_of h
      refine x_istoren (ls' := [some (vr (xG X) th), some (vi x1), some (vi x2_4), some (vi x3)]) hX dX1_weightOfAll_30 rfl ex2_4 rfl ?_
      exact x_weak [true, true, true, true] rfl (tj_X1_weightOfAll_31_4 hX h0 x1 x2_4 x3 M o h hP hE hR)
  · replace h := (if_neg hc).symm.trans h
    exact x_weak [false, false, true, false] rfl (hE x2 (Option.some.inj h).symm)
noncomputable def f_X1_weightOfAll (th : Nat) (x1 : Int) (M : Mem) : Option (Int) :=
  lpb (wh (fun x => s_X1_weightOfAll_4 th x1 M x.1 x.2) (0, 0)) (fun z_5 => some z_5) (fun q => some q)
set_option maxRecDepth 100000 in
set_option maxHeartbeats 4000000 in
theorem c_X1_weightOfAll {l : Launch} {G : Gx} (hG : GOK G) (hl : l.stackTraces = false) {th : Nat} (h0 : at_ G th 11 0) (x1 : Int) (M : Mem) (r : Int) (h : f_X1_weightOfAll th x1 M = some r) : Cn l G mX1_weightOfAll 2 [vr G th, vi x1] M (some (vi r)) M := by
  refine Cn_of2 (ls := [some (vr G th), some (vi x1), none, none]) hG hl kX1_weightOfAll rfl (Nat.le_of_ble_eq_true rfl) rfl rfl rfl rfl rfl (fun X eG el hX => ?_)
  subst eG; subst el
  unfold f_X1_weightOfAll at h
  refine x_iconst hX dX1_weightOfAll_0 ?_
  refine x_istoren (ls' := [some (vr (xG X) th), some (vi x1), some (vi 0), none]) hX dX1_weightOfAll_1 rfl rfl rfl ?_
  refine x_iconst hX dX1_weightOfAll_2 ?_
  refine x_istoren (ls' := [some (vr (xG X) th), some (vi x1), some (vi 0), some (vi 0)]) hX dX1_weightOfAll_3 rfl rfl rfl ?_
  refine x_weak (ls' := [some (vr (xG X) th), some (vi x1), some (vi 0), some (vi 0)]) [true, true, true, true] rfl ?_
  refine lp_use (x := (0, 0)) (P := fun x => V X 0 0 (Qn X (some (vi r)) M) 4 [some (vr (xG X) th), some (vi x1), some (vi x.1), some (vi x.2)] [] M) (PE := fun z_5 => V X 0 0 (Qn X (some (vi r)) M) 37 [none, none, some (vi z_5), none] [] M) (PR := fun q => (Qn X (some (vi r)) M) = Qn X (some (vi q)) M) h (fun x o hh hP hE hR => ts_X1_weightOfAll_4 hX h0 x1 M x.1 x.2 o hh hP hE hR) (fun z_5 h => ?_) (fun q h => ?_)
  · show V X 0 0 (Qn X (some (vi r)) M) 37 [none, none, some (vi z_5), none] [] M
    refine x_iloadn hX dX1_weightOfAll_37 rfl ?_
    cases h
    exact x_iret hX dX1_weightOfAll_38 rfl
  · cases h; rfl
theorem dX1_openBatch_0 : decode cX1_openBatch 0 = .ok (.aload_n 0, 1) := by decide +kernel
theorem dX1_openBatch_1 : decode cX1_openBatch 1 = .ok (.getfield 28, 3) := by decide +kernel
theorem dX1_openBatch_4 : decode cX1_openBatch 4 = .ok (.iload_n 1, 1) := by decide +kernel
theorem dX1_openBatch_5 : decode cX1_openBatch 5 = .ok (.iconst 1, 1) := by decide +kernel
theorem dX1_openBatch_6 : decode cX1_openBatch 6 = .ok (.invokevirtual 87, 3) := by decide +kernel
theorem dX1_openBatch_9 : decode cX1_openBatch 9 = .ok (.aload_n 0, 1) := by decide +kernel
theorem dX1_openBatch_10 : decode cX1_openBatch 10 = .ok (.getfield 35, 3) := by decide +kernel
theorem dX1_openBatch_13 : decode cX1_openBatch 13 = .ok (.iload_n 1, 1) := by decide +kernel
theorem dX1_openBatch_14 : decode cX1_openBatch 14 = .ok (.invokevirtual 91, 3) := by decide +kernel
theorem dX1_openBatch_17 : decode cX1_openBatch 17 = .ok (.ireturn, 1) := by decide +kernel
noncomputable def f_X1_openBatch (th : Nat) (x1 : Int) (M : Mem) : Option (Int × Mem) :=
  cl1 (f_X5_setStates (th + 9) x1 1 M) (fun M_2 => cl2 (f_X0_append (th + 16) x1 M_2) (fun r_3 M_4 => some (r_3, M_4)))
set_option maxRecDepth 100000 in
set_option maxHeartbeats 4000000 in
theorem c_X1_openBatch {l : Launch} {G : Gx} (hG : GOK G) (hl : l.stackTraces = false) {th : Nat} (h0 : at_ G th 11 0) (x1 : Int) (M : Mem) (r : Int) (Mr : Mem) (h : f_X1_openBatch th x1 M = some (r, Mr)) : Cn l G mX1_openBatch 2 [vr G th, vi x1] M (some (vi r)) Mr := by
  refine Cn_of2 (ls := [some (vr G th), some (vi x1)]) hG hl kX1_openBatch rfl (Nat.le_of_ble_eq_true rfl) rfl rfl rfl rfl rfl (fun X eG el hX => ?_)
  subst eG; subst el
  unfold f_X1_openBatch at h
  refine x_aloadn hX dX1_openBatch_0 rfl ?_
  refine x_getRj (j := th + 9) hX dX1_openBatch_1 fl_X1_28 rfl h0 rfl ?_
  refine x_iloadn hX dX1_openBatch_4 rfl ?_
  refine x_iconst hX dX1_openBatch_5 ?_
  obtain ⟨M_2, er_1, h⟩ := cl1_of h
  refine x_callVv (t := 5) (As := [vi x1, vi 1]) (rest := []) hX dX1_openBatch_6 (c_X5_setStates (gk hX) (gl hX) (fo_1_2 (gk hX) h0) x1 1 M _ er_1) kX5_setStates vX5_setStates w_1256 (fo_1_2 (gk hX) h0) rfl rfl rfl rfl (Nat.le_of_ble_eq_true rfl) z0 ?_
  refine x_aloadn hX dX1_openBatch_9 rfl ?_
  refine x_getRj (j := th + 16) hX dX1_openBatch_10 fl_X1_35 rfl h0 rfl ?_
  refine x_iloadn hX dX1_openBatch_13 rfl ?_
  obtain ⟨r_3, M_4, er_3, h⟩ := cl2_of h
  refine x_callVi (t := 0) (As := [vi x1]) (rest := []) hX dX1_openBatch_14 (c_X0_append (gk hX) (gl hX) (fo_1_3 (gk hX) h0) x1 M_2 _ _ er_3) kX0_append vX0_append w_1260 (fo_1_3 (gk hX) h0) rfl rfl rfl rfl (Nat.le_of_ble_eq_true rfl) z0 ?_
  cases h
  exact x_iret hX dX1_openBatch_17 rfl
theorem dX1_pickFirstBatch_0 : decode cX1_pickFirstBatch 0 = .ok (.aload_n 0, 1) := by decide +kernel
theorem dX1_pickFirstBatch_1 : decode cX1_pickFirstBatch 1 = .ok (.getfield 35, 3) := by decide +kernel
theorem dX1_pickFirstBatch_4 : decode cX1_pickFirstBatch 4 = .ok (.getfield 94, 3) := by decide +kernel
theorem dX1_pickFirstBatch_7 : decode cX1_pickFirstBatch 7 = .ok (.iconst 0, 1) := by decide +kernel
theorem dX1_pickFirstBatch_8 : decode cX1_pickFirstBatch 8 = .ok (.iaload, 1) := by decide +kernel
theorem dX1_pickFirstBatch_9 : decode cX1_pickFirstBatch 9 = .ok (.istore_n 1, 1) := by decide +kernel
theorem dX1_pickFirstBatch_10 : decode cX1_pickFirstBatch 10 = .ok (.iconst 0, 1) := by decide +kernel
theorem dX1_pickFirstBatch_11 : decode cX1_pickFirstBatch 11 = .ok (.istore_n 2, 1) := by decide +kernel
theorem dX1_pickFirstBatch_12 : decode cX1_pickFirstBatch 12 = .ok (.iconst 0, 1) := by decide +kernel
theorem dX1_pickFirstBatch_13 : decode cX1_pickFirstBatch 13 = .ok (.istore_n 3, 1) := by decide +kernel
theorem dX1_pickFirstBatch_14 : decode cX1_pickFirstBatch 14 = .ok (.iload_n 3, 1) := by decide +kernel
theorem dX1_pickFirstBatch_15 : decode cX1_pickFirstBatch 15 = .ok (.aload_n 0, 1) := by decide +kernel
theorem dX1_pickFirstBatch_16 : decode cX1_pickFirstBatch 16 = .ok (.getfield 28, 3) := by decide +kernel
theorem dX1_pickFirstBatch_19 : decode cX1_pickFirstBatch 19 = .ok (.getfield 46, 3) := by decide +kernel
theorem dX1_pickFirstBatch_22 : decode cX1_pickFirstBatch 22 = .ok (.if_icmp .ge 25, 3) := by decide +kernel
theorem dX1_pickFirstBatch_25 : decode cX1_pickFirstBatch 25 = .ok (.iload_n 1, 1) := by decide +kernel
theorem dX1_pickFirstBatch_26 : decode cX1_pickFirstBatch 26 = .ok (.iload_n 3, 1) := by decide +kernel
theorem dX1_pickFirstBatch_27 : decode cX1_pickFirstBatch 27 = .ok (.ishr, 1) := by decide +kernel
theorem dX1_pickFirstBatch_28 : decode cX1_pickFirstBatch 28 = .ok (.iconst 1, 1) := by decide +kernel
theorem dX1_pickFirstBatch_29 : decode cX1_pickFirstBatch 29 = .ok (.iand, 1) := by decide +kernel
theorem dX1_pickFirstBatch_30 : decode cX1_pickFirstBatch 30 = .ok (.ifCond .eq 11, 3) := by decide +kernel
theorem dX1_pickFirstBatch_33 : decode cX1_pickFirstBatch 33 = .ok (.iload_n 2, 1) := by decide +kernel
theorem dX1_pickFirstBatch_34 : decode cX1_pickFirstBatch 34 = .ok (.aload_n 0, 1) := by decide +kernel
theorem dX1_pickFirstBatch_35 : decode cX1_pickFirstBatch 35 = .ok (.iload_n 3, 1) := by decide +kernel
theorem dX1_pickFirstBatch_36 : decode cX1_pickFirstBatch 36 = .ok (.invokevirtual 109, 3) := by decide +kernel
theorem dX1_pickFirstBatch_39 : decode cX1_pickFirstBatch 39 = .ok (.iadd, 1) := by decide +kernel
theorem dX1_pickFirstBatch_40 : decode cX1_pickFirstBatch 40 = .ok (.istore_n 2, 1) := by decide +kernel
theorem dX1_pickFirstBatch_41 : decode cX1_pickFirstBatch 41 = .ok (.iinc 3 1, 3) := by decide +kernel
theorem dX1_pickFirstBatch_44 : decode cX1_pickFirstBatch 44 = .ok (.goto (-30), 3) := by decide +kernel
theorem dX1_pickFirstBatch_47 : decode cX1_pickFirstBatch 47 = .ok (.aload_n 0, 1) := by decide +kernel
theorem dX1_pickFirstBatch_48 : decode cX1_pickFirstBatch 48 = .ok (.getfield 28, 3) := by decide +kernel
theorem dX1_pickFirstBatch_51 : decode cX1_pickFirstBatch 51 = .ok (.iload_n 1, 1) := by decide +kernel
theorem dX1_pickFirstBatch_52 : decode cX1_pickFirstBatch 52 = .ok (.iconst 2, 1) := by decide +kernel
theorem dX1_pickFirstBatch_53 : decode cX1_pickFirstBatch 53 = .ok (.invokevirtual 87, 3) := by decide +kernel
theorem dX1_pickFirstBatch_56 : decode cX1_pickFirstBatch 56 = .ok (.aload_n 0, 1) := by decide +kernel
theorem dX1_pickFirstBatch_57 : decode cX1_pickFirstBatch 57 = .ok (.getfield 35, 3) := by decide +kernel
theorem dX1_pickFirstBatch_60 : decode cX1_pickFirstBatch 60 = .ok (.iconst 0, 1) := by decide +kernel
theorem dX1_pickFirstBatch_61 : decode cX1_pickFirstBatch 61 = .ok (.invokevirtual 112, 3) := by decide +kernel
theorem dX1_pickFirstBatch_64 : decode cX1_pickFirstBatch 64 = .ok (.iload_n 2, 1) := by decide +kernel
theorem dX1_pickFirstBatch_65 : decode cX1_pickFirstBatch 65 = .ok (.ireturn, 1) := by decide +kernel
noncomputable def j_X1_pickFirstBatch_41_14 (th : Nat)  (x1 : Int) (x2 : Int) (x3 : Int) (M : Mem) : Option ((Int × Int × Mem) ⊕ ((Int × Mem) ⊕ (Int × Mem))) :=
  bnd (x3 + 1) (fun x3_2 => some (.inl (x2, x3_2, M)))
set_option maxRecDepth 100000 in
set_option maxHeartbeats 4000000 in
theorem tj_X1_pickFirstBatch_41_14 {X : Cxt} (hX : Gd X RX1 cX1_pickFirstBatch 4 (some .int) 2) {th : Nat} (h0 : at_ (xG X) th 11 0)  (x1 : Int) (x2 : Int) (x3 : Int) (M : Mem) {Q : State → Prop} (o : (Int × Int × Mem) ⊕ ((Int × Mem) ⊕ (Int × Mem))) (h : j_X1_pickFirstBatch_41_14 th x1 x2 x3 M = some o) (hP : ∀ y, o = .inl y → V X 0 0 Q 14 [some (vr (xG X) th), some (vi x1), some (vi y.1), some (vi y.2.1)] [] y.2.2) (hE : ∀ z, o = .inr (.inl z) → V X 0 0 Q 47 [some (vr (xG X) th), some (vi x1), some (vi z.1), none] [] z.2) (hR : ∀ q, o = .inr (.inr q) → Q = Qn X (some (vi q.1)) q.2) : V X 0 0 Q 41 [some (vr (xG X) th), some (vi x1), some (vi x2), some (vi x3)] [] M := by
  unfold j_X1_pickFirstBatch_41_14 at h
  obtain ⟨x3_2, ex3_2, h⟩ := bnd_of h
  refine x_iinc (ls' := [some (vr (xG X) th), some (vi x1), some (vi x2), some (vi x3_2)]) hX dX1_pickFirstBatch_41 rfl rfl ex3_2 rfl ?_
  refine x_goto (tgt := 14) hX dX1_pickFirstBatch_44 (by decide) ?_
  exact x_weak [true, true, true, true] rfl (hP (x2, x3_2, M) (Option.some.inj h).symm)
noncomputable def s_X1_pickFirstBatch_14 (th : Nat) (x1 : Int) (x2 : Int) (x3 : Int) (M : Mem) : Option ((Int × Int × Mem) ⊕ ((Int × Mem) ⊕ (Int × Mem))) :=
  (if w32 x3 < w32 (M (th + 9) 0) then (if w32 (i_and (i_shr x1 x3) 1) = 0 then j_X1_pickFirstBatch_41_14 th x1 x2 x3 M else cl2 (f_X1_serve th x3 M) (fun r_3 M_4 => bnd (x2 + r_3) (fun x2_5 => j_X1_pickFirstBatch_41_14 th x1 x2_5 x3 M_4))) else some (.inr (.inl (x2, M))))
set_option maxRecDepth 100000 in
set_option maxHeartbeats 4000000 in
theorem ts_X1_pickFirstBatch_14 {X : Cxt} (hX : Gd X RX1 cX1_pickFirstBatch 4 (some .int) 2) {th : Nat} (h0 : at_ (xG X) th 11 0) (x1 : Int) (x2 : Int) (x3 : Int) (M : Mem) {Q : State → Prop} (o : (Int × Int × Mem) ⊕ ((Int × Mem) ⊕ (Int × Mem))) (h : s_X1_pickFirstBatch_14 th x1 x2 x3 M = some o) (hP : ∀ y, o = .inl y → V X 0 0 Q 14 [some (vr (xG X) th), some (vi x1), some (vi y.1), some (vi y.2.1)] [] y.2.2) (hE : ∀ z, o = .inr (.inl z) → V X 0 0 Q 47 [some (vr (xG X) th), some (vi x1), some (vi z.1), none] [] z.2) (hR : ∀ q, o = .inr (.inr q) → Q = Qn X (some (vi q.1)) q.2) : V X 0 0 Q 14 [some (vr (xG X) th), some (vi x1), some (vi x2), some (vi x3)] [] M := by
  unfold s_X1_pickFirstBatch_14 at h
  refine x_iloadn hX dX1_pickFirstBatch_14 rfl ?_
  refine x_aloadn hX dX1_pickFirstBatch_15 rfl ?_
  refine x_getRj (j := th + 9) hX dX1_pickFirstBatch_16 fl_X1_28 rfl h0 rfl ?_
  refine x_getI hX dX1_pickFirstBatch_19 fl_X1_46 rfl (fo_1_2 (gk hX) h0) ?_
  refine x_icmp_ge (tgt := 47) hX dX1_pickFirstBatch_22 (by decide) rfl rfl (fun hc => ?_) (fun hc => ?_)
  · replace h := (if_pos hc).symm.trans h
    refine x_iloadn hX dX1_pickFirstBatch_25 rfl ?_
    refine x_iloadn hX dX1_pickFirstBatch_26 rfl ?_
    refine x_ishr hX dX1_pickFirstBatch_27 ?_
    refine x_iconst hX dX1_pickFirstBatch_28 ?_
    refine x_iand hX dX1_pickFirstBatch_29 ?_
    refine x_if_eq (tgt := 41) hX dX1_pickFirstBatch_30 (by decide) rfl (fun hc => ?_) (fun hc => ?_)
    · replace h := (if_pos hc).symm.trans h
      exact x_weak [true, true, true, true] rfl (tj_X1_pickFirstBatch_41_14 hX h0 x1 x2 x3 M o h hP hE hR)
    · replace h := (if_neg hc).symm.trans h
      refine x_iloadn hX dX1_pickFirstBatch_33 rfl ?_
      refine x_aloadn hX dX1_pickFirstBatch_34 rfl ?_
      refine x_iloadn hX dX1_pickFirstBatch_35 rfl ?_
      obtain ⟨r_3, M_4, er_3, h⟩ := cl2_of h
      refine x_callVi (t := 1) (As := [vi x3]) (rest := [vi x2]) hX dX1_pickFirstBatch_36 (c_X1_serve (gk hX) (gl hX) h0 x3 M _ _ er_3) kX1_serve vX1_serve w_1545 h0 rfl rfl rfl rfl (Nat.le_of_ble_eq_true rfl) z0 ?_
      refine x_iadd hX dX1_pickFirstBatch_39 ?_
      obtain ⟨x2_5, ex2_5, h⟩ := bnd_of h
      refine x_istoren (ls' := [some (vr (xG X) th), some (vi x1), some (vi x2_5), some (vi x3)]) hX dX1_pickFirstBatch_40 rfl ex2_5 rfl ?_
      exact x_weak [true, true, true, true] rfl (tj_X1_pickFirstBatch_41_14 hX h0 x1 x2_5 x3 M_4 o h hP hE hR)
  · replace h := (if_neg hc).symm.trans h
    exact x_weak [true, true, true, false] rfl (hE (x2, M) (Option.some.inj h).symm)
noncomputable def f_X1_pickFirstBatch (th : Nat) (M : Mem) : Option (Int × Mem) :=
  bnd (M (th + 16 + 1) 0) (fun x1_1 => lpb (wh (fun x => s_X1_pickFirstBatch_14 th x1_1 x.1 x.2.1 x.2.2) (0, 0, M)) (fun z_6 => cl1 (f_X5_setStates (th + 9) x1_1 2 z_6.2) (fun M_8 => cl1 (f_X0_drop (th + 16) 0 M_8) (fun M_10 => some (z_6.1, M_10)))) (fun q => some q))
set_option maxRecDepth 100000 in
set_option maxHeartbeats 4000000 in
theorem c_X1_pickFirstBatch {l : Launch} {G : Gx} (hG : GOK G) (hl : l.stackTraces = false) {th : Nat} (h0 : at_ G th 11 0) (M : Mem) (r : Int) (Mr : Mem) (h : f_X1_pickFirstBatch th M = some (r, Mr)) : Cn l G mX1_pickFirstBatch 2 [vr G th] M (some (vi r)) Mr := by
  refine Cn_of2 (ls := [some (vr G th), none, none, none]) hG hl kX1_pickFirstBatch rfl (Nat.le_of_ble_eq_true rfl) rfl rfl rfl rfl rfl (fun X eG el hX => ?_)
  subst eG; subst el
  unfold f_X1_pickFirstBatch at h
  refine x_aloadn hX dX1_pickFirstBatch_0 rfl ?_
  refine x_getRj (j := th + 16) hX dX1_pickFirstBatch_1 fl_X1_35 rfl h0 rfl ?_
  refine x_getRj (j := th + 16 + 1) hX dX1_pickFirstBatch_4 fl_X1_94 rfl (fo_1_3 (gk hX) h0) rfl ?_
  refine x_iconst hX dX1_pickFirstBatch_7 ?_
  refine x_iald hX dX1_pickFirstBatch_8 (fo_0_1 (gk hX) (fo_1_3 (gk hX) h0)) inc_0_8 ixc_0 ?_
  obtain ⟨x1_1, ex1_1, h⟩ := bnd_of h
  refine x_istoren (ls' := [some (vr (xG X) th), some (vi x1_1), none, none]) hX dX1_pickFirstBatch_9 rfl ex1_1 rfl ?_
  refine x_iconst hX dX1_pickFirstBatch_10 ?_
  refine x_istoren (ls' := [some (vr (xG X) th), some (vi x1_1), some (vi 0), none]) hX dX1_pickFirstBatch_11 rfl rfl rfl ?_
  refine x_iconst hX dX1_pickFirstBatch_12 ?_
  refine x_istoren (ls' := [some (vr (xG X) th), some (vi x1_1), some (vi 0), some (vi 0)]) hX dX1_pickFirstBatch_13 rfl rfl rfl ?_
  refine x_weak (ls' := [some (vr (xG X) th), some (vi x1_1), some (vi 0), some (vi 0)]) [true, true, true, true] rfl ?_
  refine lp_use (x := (0, 0, M)) (P := fun x => V X 0 0 (Qn X (some (vi r)) Mr) 14 [some (vr (xG X) th), some (vi x1_1), some (vi x.1), some (vi x.2.1)] [] x.2.2) (PE := fun z_6 => V X 0 0 (Qn X (some (vi r)) Mr) 47 [some (vr (xG X) th), some (vi x1_1), some (vi z_6.1), none] [] z_6.2) (PR := fun q => (Qn X (some (vi r)) Mr) = Qn X (some (vi q.1)) q.2) h (fun x o hh hP hE hR => ts_X1_pickFirstBatch_14 hX h0 x1_1 x.1 x.2.1 x.2.2 o hh hP hE hR) (fun z_6 h => ?_) (fun q h => ?_)
  · show V X 0 0 (Qn X (some (vi r)) Mr) 47 [some (vr (xG X) th), some (vi x1_1), some (vi z_6.1), none] [] z_6.2
    refine x_aloadn hX dX1_pickFirstBatch_47 rfl ?_
    refine x_getRj (j := th + 9) hX dX1_pickFirstBatch_48 fl_X1_28 rfl h0 rfl ?_
    refine x_iloadn hX dX1_pickFirstBatch_51 rfl ?_
    refine x_iconst hX dX1_pickFirstBatch_52 ?_
    obtain ⟨M_8, er_7, h⟩ := cl1_of h
    refine x_callVv (t := 5) (As := [vi x1_1, vi 2]) (rest := []) hX dX1_pickFirstBatch_53 (c_X5_setStates (gk hX) (gl hX) (fo_1_2 (gk hX) h0) x1_1 2 z_6.2 _ er_7) kX5_setStates vX5_setStates w_1256 (fo_1_2 (gk hX) h0) rfl rfl rfl rfl (Nat.le_of_ble_eq_true rfl) z0 ?_
    refine x_aloadn hX dX1_pickFirstBatch_56 rfl ?_
    refine x_getRj (j := th + 16) hX dX1_pickFirstBatch_57 fl_X1_35 rfl h0 rfl ?_
    refine x_iconst hX dX1_pickFirstBatch_60 ?_
    obtain ⟨M_10, er_9, h⟩ := cl1_of h
    refine x_callVv (t := 0) (As := [vi 0]) (rest := []) hX dX1_pickFirstBatch_61 (c_X0_drop (gk hX) (gl hX) (fo_1_3 (gk hX) h0) 0 M_8 _ er_9) kX0_drop vX0_drop w_1549 (fo_1_3 (gk hX) h0) rfl rfl rfl rfl (Nat.le_of_ble_eq_true rfl) z0 ?_
    refine x_iloadn hX dX1_pickFirstBatch_64 rfl ?_
    cases h
    exact x_iret hX dX1_pickFirstBatch_65 rfl
  · cases h; rfl
theorem dX3_build_0 : decode cX3_build 0 = .ok (.aload_n 0, 1) := by decide +kernel
theorem dX3_build_1 : decode cX3_build 1 = .ok (.iload_n 1, 1) := by decide +kernel
theorem dX3_build_2 : decode cX3_build 2 = .ok (.putfield 32, 3) := by decide +kernel
theorem dX3_build_5 : decode cX3_build 5 = .ok (.aload_n 0, 1) := by decide +kernel
theorem dX3_build_6 : decode cX3_build 6 = .ok (.iload_n 2, 1) := by decide +kernel
theorem dX3_build_7 : decode cX3_build 7 = .ok (.putfield 35, 3) := by decide +kernel
theorem dX3_build_10 : decode cX3_build 10 = .ok (.aload_n 0, 1) := by decide +kernel
theorem dX3_build_11 : decode cX3_build 11 = .ok (.iload_n 3, 1) := by decide +kernel
theorem dX3_build_12 : decode cX3_build 12 = .ok (.putfield 38, 3) := by decide +kernel
theorem dX3_build_15 : decode cX3_build 15 = .ok (.aload_n 0, 1) := by decide +kernel
theorem dX3_build_16 : decode cX3_build 16 = .ok (.iconst (-1), 1) := by decide +kernel
theorem dX3_build_17 : decode cX3_build 17 = .ok (.iconst (-1), 1) := by decide +kernel
theorem dX3_build_18 : decode cX3_build 18 = .ok (.invokevirtual 41, 3) := by decide +kernel
theorem dX3_build_21 : decode cX3_build 21 = .ok (.return_, 1) := by decide +kernel
noncomputable def f_X3_build (th : Nat) (x1 : Int) (x2 : Int) (x3 : Int) (M : Mem) : Option (Mem) :=
  bnd (upd2 M th 0 x1) (fun M_1 => bnd (upd2 M_1 th 1 x2) (fun M_2 => bnd (upd2 M_2 th 2 x3) (fun M_3 => cl1 (f_X3_divide th (-1) (-1) M_3) (fun M_5 => some M_5))))
set_option maxRecDepth 100000 in
set_option maxHeartbeats 4000000 in
theorem c_X3_build {l : Launch} {G : Gx} (hG : GOK G) (hl : l.stackTraces = false) {th : Nat} (h0 : at_ G th 13 0) (x1 : Int) (x2 : Int) (x3 : Int) (M : Mem) (Mr : Mem) (h : f_X3_build th x1 x2 x3 M = some Mr) : Cn l G mX3_build 2 [vr G th, vi x1, vi x2, vi x3] M none Mr := by
  refine Cn_of2 (ls := [some (vr G th), some (vi x1), some (vi x2), some (vi x3)]) hG hl kX3_build rfl (Nat.le_of_ble_eq_true rfl) rfl rfl rfl rfl rfl (fun X eG el hX => ?_)
  subst eG; subst el
  unfold f_X3_build at h
  refine x_aloadn hX dX3_build_0 rfl ?_
  refine x_iloadn hX dX3_build_1 rfl ?_
  obtain ⟨M_1, eM_1, h⟩ := bnd_of h
  refine x_putI hX dX3_build_2 fp_X3_32 rfl h0 (x_meq eM_1 ?_)
  refine x_aloadn hX dX3_build_5 rfl ?_
  refine x_iloadn hX dX3_build_6 rfl ?_
  obtain ⟨M_2, eM_2, h⟩ := bnd_of h
  refine x_putI hX dX3_build_7 fp_X3_35 rfl h0 (x_meq eM_2 ?_)
  refine x_aloadn hX dX3_build_10 rfl ?_
  refine x_iloadn hX dX3_build_11 rfl ?_
  obtain ⟨M_3, eM_3, h⟩ := bnd_of h
  refine x_putI hX dX3_build_12 fp_X3_38 rfl h0 (x_meq eM_3 ?_)
  refine x_aloadn hX dX3_build_15 rfl ?_
  refine x_iconst hX dX3_build_16 ?_
  refine x_iconst hX dX3_build_17 ?_
  obtain ⟨M_5, er_4, h⟩ := cl1_of h
  refine x_callVv (t := 3) (As := [vi (-1), vi (-1)]) (rest := []) hX dX3_build_18 (c_X3_divide (gk hX) (gl hX) h0 (-1) (-1) M_3 _ er_4) kX3_divide vX3_divide w_360 h0 rfl rfl rfl rfl (Nat.le_of_ble_eq_true rfl) z0 ?_
  cases h
  exact x_vret hX dX3_build_21 rfl
theorem dX5_shortInAll_0 : decode cX5_shortInAll 0 = .ok (.iconst 0, 1) := by decide +kernel
theorem dX5_shortInAll_1 : decode cX5_shortInAll 1 = .ok (.istore_n 2, 1) := by decide +kernel
theorem dX5_shortInAll_2 : decode cX5_shortInAll 2 = .ok (.iconst 0, 1) := by decide +kernel
theorem dX5_shortInAll_3 : decode cX5_shortInAll 3 = .ok (.istore_n 3, 1) := by decide +kernel
theorem dX5_shortInAll_4 : decode cX5_shortInAll 4 = .ok (.iload_n 3, 1) := by decide +kernel
theorem dX5_shortInAll_5 : decode cX5_shortInAll 5 = .ok (.aload_n 0, 1) := by decide +kernel
theorem dX5_shortInAll_6 : decode cX5_shortInAll 6 = .ok (.getfield 18, 3) := by decide +kernel
theorem dX5_shortInAll_9 : decode cX5_shortInAll 9 = .ok (.iload_n 1, 1) := by decide +kernel
theorem dX5_shortInAll_10 : decode cX5_shortInAll 10 = .ok (.iaload, 1) := by decide +kernel
theorem dX5_shortInAll_11 : decode cX5_shortInAll 11 = .ok (.if_icmp .ge 18, 3) := by decide +kernel
theorem dX5_shortInAll_14 : decode cX5_shortInAll 14 = .ok (.iload_n 2, 1) := by decide +kernel
theorem dX5_shortInAll_15 : decode cX5_shortInAll 15 = .ok (.aload_n 0, 1) := by decide +kernel
theorem dX5_shortInAll_16 : decode cX5_shortInAll 16 = .ok (.iload_n 1, 1) := by decide +kernel
theorem dX5_shortInAll_17 : decode cX5_shortInAll 17 = .ok (.iload_n 3, 1) := by decide +kernel
theorem dX5_shortInAll_18 : decode cX5_shortInAll 18 = .ok (.invokevirtual 34, 3) := by decide +kernel
theorem dX5_shortInAll_21 : decode cX5_shortInAll 21 = .ok (.iadd, 1) := by decide +kernel
theorem dX5_shortInAll_22 : decode cX5_shortInAll 22 = .ok (.istore_n 2, 1) := by decide +kernel
theorem dX5_shortInAll_23 : decode cX5_shortInAll 23 = .ok (.iinc 3 1, 3) := by decide +kernel
theorem dX5_shortInAll_26 : decode cX5_shortInAll 26 = .ok (.goto (-22), 3) := by decide +kernel
theorem dX5_shortInAll_29 : decode cX5_shortInAll 29 = .ok (.iload_n 2, 1) := by decide +kernel
theorem dX5_shortInAll_30 : decode cX5_shortInAll 30 = .ok (.ireturn, 1) := by decide +kernel
noncomputable def s_X5_shortInAll_4 (th : Nat) (x1 : Int) (M : Mem) (x2 : Int) (x3 : Int) : Option ((Int × Int) ⊕ ((Int) ⊕ (Int))) :=
  gi x1 16 ((if w32 x3 < w32 (M (th + 3) (ix x1)) then cl1 (f_X5_shortIn th x1 x3 M) (fun r_2 => bnd (x2 + r_2) (fun x2_4 => bnd (x3 + 1) (fun x3_5 => some (.inl (x2_4, x3_5))))) else some (.inr (.inl x2))))
set_option maxRecDepth 100000 in
set_option maxHeartbeats 4000000 in
theorem ts_X5_shortInAll_4 {X : Cxt} (hX : Gd X RX5 cX5_shortInAll 4 (some .int) 2) {th : Nat} (h0 : at_ (xG X) th 15 0) (x1 : Int) (M : Mem) (x2 : Int) (x3 : Int) {Q : State → Prop} (o : (Int × Int) ⊕ ((Int) ⊕ (Int))) (h : s_X5_shortInAll_4 th x1 M x2 x3 = some o) (hP : ∀ y, o = .inl y → V X 0 0 Q 4 [some (vr (xG X) th), some (vi x1), some (vi y.1), some (vi y.2)] [] M) (hE : ∀ z, o = .inr (.inl z) → V X 0 0 Q 29 [none, none, some (vi z), none] [] M) (hR : ∀ q, o = .inr (.inr q) → Q = Qn X (some (vi q)) M) : V X 0 0 Q 4 [some (vr (xG X) th), some (vi x1), some (vi x2), some (vi x3)] [] M := by
  unfold s_X5_shortInAll_4 at h
  refine x_iloadn hX dX5_shortInAll_4 rfl ?_
  refine x_aloadn hX dX5_shortInAll_5 rfl ?_
  refine x_getRj (j := th + 3) hX dX5_shortInAll_6 fl_X5_18 rfl h0 rfl ?_
  refine x_iloadn hX dX5_shortInAll_9 rfl ?_
  obtain ⟨b_1, h⟩ := gi_of h
  refine x_iald hX dX5_shortInAll_10 (fo_5_4 (gk hX) h0) b_1 rfl ?_
  refine x_icmp_ge (tgt := 29) hX dX5_shortInAll_11 (by decide) rfl rfl (fun hc => ?_) (fun hc => ?_)
  · replace h := (if_pos hc).symm.trans h
    refine x_iloadn hX dX5_shortInAll_14 rfl ?_
    refine x_aloadn hX dX5_shortInAll_15 rfl ?_
    refine x_iloadn hX dX5_shortInAll_16 rfl ?_
    refine x_iloadn hX dX5_shortInAll_17 rfl ?_
    obtain ⟨r_2, er_2, h⟩ := cl1_of h
    refine x_callVi (t := 5) (As := [vi x1, vi x3]) (rest := [vi x2]) hX dX5_shortInAll_18 (c_X5_shortIn (gk hX) (gl hX) h0 x1 x3 M _ er_2) kX5_shortIn vX5_shortIn w_759 h0 rfl rfl rfl rfl (Nat.le_of_ble_eq_true rfl) z0 ?_
    refine x_iadd hX dX5_shortInAll_21 ?_
    obtain ⟨x2_4, ex2_4, h⟩ := bnd_of h
    refine x_istoren (ls' := [some (vr (xG X) th), some (vi x1), some (vi x2_4), some (vi x3)]) hX dX5_shortInAll_22 rfl ex2_4 rfl ?_
    obtain ⟨x3_5, ex3_5, h⟩ := bnd_of h
    refine x_iinc (ls' := [some (vr (xG X) th), some (vi x1), some (vi x2_4), some (vi x3_5)]) hX dX5_shortInAll_23 rfl rfl ex3_5 rfl ?_
    refine x_goto (tgt := 4) hX dX5_shortInAll_26 (by decide) ?_
    exact x_weak [true, true, true, true] rfl (hP (x2_4, x3_5) (Option.some.inj h).symm)
  · replace h := (if_neg hc).symm.trans h
    exact x_weak [false, false, true, false] rfl (hE x2 (Option.some.inj h).symm)
noncomputable def f_X5_shortInAll (th : Nat) (x1 : Int) (M : Mem) : Option (Int) :=
  lpb (wh (fun x => s_X5_shortInAll_4 th x1 M x.1 x.2) (0, 0)) (fun z_6 => some z_6) (fun q => some q)
set_option maxRecDepth 100000 in
set_option maxHeartbeats 4000000 in
theorem c_X5_shortInAll {l : Launch} {G : Gx} (hG : GOK G) (hl : l.stackTraces = false) {th : Nat} (h0 : at_ G th 15 0) (x1 : Int) (M : Mem) (r : Int) (h : f_X5_shortInAll th x1 M = some r) : Cn l G mX5_shortInAll 2 [vr G th, vi x1] M (some (vi r)) M := by
  refine Cn_of2 (ls := [some (vr G th), some (vi x1), none, none]) hG hl kX5_shortInAll rfl (Nat.le_of_ble_eq_true rfl) rfl rfl rfl rfl rfl (fun X eG el hX => ?_)
  subst eG; subst el
  unfold f_X5_shortInAll at h
  refine x_iconst hX dX5_shortInAll_0 ?_
  refine x_istoren (ls' := [some (vr (xG X) th), some (vi x1), some (vi 0), none]) hX dX5_shortInAll_1 rfl rfl rfl ?_
  refine x_iconst hX dX5_shortInAll_2 ?_
  refine x_istoren (ls' := [some (vr (xG X) th), some (vi x1), some (vi 0), some (vi 0)]) hX dX5_shortInAll_3 rfl rfl rfl ?_
  refine x_weak (ls' := [some (vr (xG X) th), some (vi x1), some (vi 0), some (vi 0)]) [true, true, true, true] rfl ?_
  refine lp_use (x := (0, 0)) (P := fun x => V X 0 0 (Qn X (some (vi r)) M) 4 [some (vr (xG X) th), some (vi x1), some (vi x.1), some (vi x.2)] [] M) (PE := fun z_6 => V X 0 0 (Qn X (some (vi r)) M) 29 [none, none, some (vi z_6), none] [] M) (PR := fun q => (Qn X (some (vi r)) M) = Qn X (some (vi q)) M) h (fun x o hh hP hE hR => ts_X5_shortInAll_4 hX h0 x1 M x.1 x.2 o hh hP hE hR) (fun z_6 h => ?_) (fun q h => ?_)
  · show V X 0 0 (Qn X (some (vi r)) M) 29 [none, none, some (vi z_6), none] [] M
    refine x_iloadn hX dX5_shortInAll_29 rfl ?_
    cases h
    exact x_iret hX dX5_shortInAll_30 rfl
  · cases h; rfl
theorem dX5_pickedOfDone_0 : decode cX5_pickedOfDone 0 = .ok (.iconst 0, 1) := by decide +kernel
theorem dX5_pickedOfDone_1 : decode cX5_pickedOfDone 1 = .ok (.istore_n 1, 1) := by decide +kernel
theorem dX5_pickedOfDone_2 : decode cX5_pickedOfDone 2 = .ok (.iconst 0, 1) := by decide +kernel
theorem dX5_pickedOfDone_3 : decode cX5_pickedOfDone 3 = .ok (.istore_n 2, 1) := by decide +kernel
theorem dX5_pickedOfDone_4 : decode cX5_pickedOfDone 4 = .ok (.iload_n 2, 1) := by decide +kernel
theorem dX5_pickedOfDone_5 : decode cX5_pickedOfDone 5 = .ok (.aload_n 0, 1) := by decide +kernel
theorem dX5_pickedOfDone_6 : decode cX5_pickedOfDone 6 = .ok (.getfield 30, 3) := by decide +kernel
theorem dX5_pickedOfDone_9 : decode cX5_pickedOfDone 9 = .ok (.if_icmp .ge 36, 3) := by decide +kernel
theorem dX5_pickedOfDone_12 : decode cX5_pickedOfDone 12 = .ok (.iconst 0, 1) := by decide +kernel
theorem dX5_pickedOfDone_13 : decode cX5_pickedOfDone 13 = .ok (.istore_n 3, 1) := by decide +kernel
theorem dX5_pickedOfDone_14 : decode cX5_pickedOfDone 14 = .ok (.iload_n 3, 1) := by decide +kernel
theorem dX5_pickedOfDone_15 : decode cX5_pickedOfDone 15 = .ok (.aload_n 0, 1) := by decide +kernel
theorem dX5_pickedOfDone_16 : decode cX5_pickedOfDone 16 = .ok (.getfield 18, 3) := by decide +kernel
theorem dX5_pickedOfDone_19 : decode cX5_pickedOfDone 19 = .ok (.iload_n 2, 1) := by decide +kernel
theorem dX5_pickedOfDone_20 : decode cX5_pickedOfDone 20 = .ok (.iaload, 1) := by decide +kernel
theorem dX5_pickedOfDone_21 : decode cX5_pickedOfDone 21 = .ok (.if_icmp .ge 18, 3) := by decide +kernel
theorem dX5_pickedOfDone_24 : decode cX5_pickedOfDone 24 = .ok (.iload_n 1, 1) := by decide +kernel
theorem dX5_pickedOfDone_25 : decode cX5_pickedOfDone 25 = .ok (.aload_n 0, 1) := by decide +kernel
theorem dX5_pickedOfDone_26 : decode cX5_pickedOfDone 26 = .ok (.iload_n 2, 1) := by decide +kernel
theorem dX5_pickedOfDone_27 : decode cX5_pickedOfDone 27 = .ok (.iload_n 3, 1) := by decide +kernel
theorem dX5_pickedOfDone_28 : decode cX5_pickedOfDone 28 = .ok (.invokevirtual 42, 3) := by decide +kernel
theorem dX5_pickedOfDone_31 : decode cX5_pickedOfDone 31 = .ok (.iadd, 1) := by decide +kernel
theorem dX5_pickedOfDone_32 : decode cX5_pickedOfDone 32 = .ok (.istore_n 1, 1) := by decide +kernel
theorem dX5_pickedOfDone_33 : decode cX5_pickedOfDone 33 = .ok (.iinc 3 1, 3) := by decide +kernel
theorem dX5_pickedOfDone_36 : decode cX5_pickedOfDone 36 = .ok (.goto (-22), 3) := by decide +kernel
theorem dX5_pickedOfDone_39 : decode cX5_pickedOfDone 39 = .ok (.iinc 2 1, 3) := by decide +kernel
theorem dX5_pickedOfDone_42 : decode cX5_pickedOfDone 42 = .ok (.goto (-38), 3) := by decide +kernel
theorem dX5_pickedOfDone_45 : decode cX5_pickedOfDone 45 = .ok (.iload_n 1, 1) := by decide +kernel
theorem dX5_pickedOfDone_46 : decode cX5_pickedOfDone 46 = .ok (.ireturn, 1) := by decide +kernel
noncomputable def s_X5_pickedOfDone_14 (th : Nat) (x2 : Int) (M : Mem) (x1 : Int) (x3 : Int) : Option ((Int × Int) ⊕ ((Int) ⊕ (Int))) :=
  gi x2 16 ((if w32 x3 < w32 (M (th + 3) (ix x2)) then cl1 (f_X5_pickedIn th x2 x3 M) (fun r_2 => bnd (x1 + r_2) (fun x1_4 => bnd (x3 + 1) (fun x3_5 => some (.inl (x1_4, x3_5))))) else some (.inr (.inl x1))))
set_option maxRecDepth 100000 in
set_option maxHeartbeats 4000000 in
theorem ts_X5_pickedOfDone_14 {X : Cxt} (hX : Gd X RX5 cX5_pickedOfDone 4 (some .int) 2) {th : Nat} (h0 : at_ (xG X) th 15 0) (x2 : Int) (M : Mem) (x1 : Int) (x3 : Int) {Q : State → Prop} (o : (Int × Int) ⊕ ((Int) ⊕ (Int))) (h : s_X5_pickedOfDone_14 th x2 M x1 x3 = some o) (hP : ∀ y, o = .inl y → V X 0 0 Q 14 [some (vr (xG X) th), some (vi y.1), some (vi x2), some (vi y.2)] [] M) (hE : ∀ z, o = .inr (.inl z) → V X 0 0 Q 39 [some (vr (xG X) th), some (vi z), some (vi x2), none] [] M) (hR : ∀ q, o = .inr (.inr q) → Q = Qn X (some (vi q)) M) : V X 0 0 Q 14 [some (vr (xG X) th), some (vi x1), some (vi x2), some (vi x3)] [] M := by
  unfold s_X5_pickedOfDone_14 at h
  refine x_iloadn hX dX5_pickedOfDone_14 rfl ?_
  refine x_aloadn hX dX5_pickedOfDone_15 rfl ?_
  refine x_getRj (j := th + 3) hX dX5_pickedOfDone_16 fl_X5_18 rfl h0 rfl ?_
  refine x_iloadn hX dX5_pickedOfDone_19 rfl ?_
  obtain ⟨b_1, h⟩ := gi_of h
  refine x_iald hX dX5_pickedOfDone_20 (fo_5_4 (gk hX) h0) b_1 rfl ?_
  refine x_icmp_ge (tgt := 39) hX dX5_pickedOfDone_21 (by decide) rfl rfl (fun hc => ?_) (fun hc => ?_)
  · replace h := (if_pos hc).symm.trans h
    refine x_iloadn hX dX5_pickedOfDone_24 rfl ?_
    refine x_aloadn hX dX5_pickedOfDone_25 rfl ?_
    refine x_iloadn hX dX5_pickedOfDone_26 rfl ?_
    refine x_iloadn hX dX5_pickedOfDone_27 rfl ?_
    obtain ⟨r_2, er_2, h⟩ := cl1_of h
    refine x_callVi (t := 5) (As := [vi x2, vi x3]) (rest := [vi x1]) hX dX5_pickedOfDone_28 (c_X5_pickedIn (gk hX) (gl hX) h0 x2 x3 M _ er_2) kX5_pickedIn vX5_pickedIn w_747 h0 rfl rfl rfl rfl (Nat.le_of_ble_eq_true rfl) z0 ?_
    refine x_iadd hX dX5_pickedOfDone_31 ?_
    obtain ⟨x1_4, ex1_4, h⟩ := bnd_of h
    refine x_istoren (ls' := [some (vr (xG X) th), some (vi x1_4), some (vi x2), some (vi x3)]) hX dX5_pickedOfDone_32 rfl ex1_4 rfl ?_
    obtain ⟨x3_5, ex3_5, h⟩ := bnd_of h
    refine x_iinc (ls' := [some (vr (xG X) th), some (vi x1_4), some (vi x2), some (vi x3_5)]) hX dX5_pickedOfDone_33 rfl rfl ex3_5 rfl ?_
    refine x_goto (tgt := 14) hX dX5_pickedOfDone_36 (by decide) ?_
    exact x_weak [true, true, true, true] rfl (hP (x1_4, x3_5) (Option.some.inj h).symm)
  · replace h := (if_neg hc).symm.trans h
    exact x_weak [true, true, true, false] rfl (hE x1 (Option.some.inj h).symm)
noncomputable def s_X5_pickedOfDone_4 (th : Nat) (M : Mem) (x1 : Int) (x2 : Int) : Option ((Int × Int) ⊕ ((Int) ⊕ (Int))) :=
  (if w32 x2 < w32 (M th 0) then lpb (wh (fun x => s_X5_pickedOfDone_14 th x2 M x.1 x.2) (x1, 0)) (fun z_6 => bnd (x2 + 1) (fun x2_7 => some (.inl (z_6, x2_7)))) (fun q => some (.inr (.inr q))) else some (.inr (.inl x1)))
set_option maxRecDepth 100000 in
set_option maxHeartbeats 4000000 in
theorem ts_X5_pickedOfDone_4 {X : Cxt} (hX : Gd X RX5 cX5_pickedOfDone 4 (some .int) 2) {th : Nat} (h0 : at_ (xG X) th 15 0) (M : Mem) (x1 : Int) (x2 : Int) {Q : State → Prop} (o : (Int × Int) ⊕ ((Int) ⊕ (Int))) (h : s_X5_pickedOfDone_4 th M x1 x2 = some o) (hP : ∀ y, o = .inl y → V X 0 0 Q 4 [some (vr (xG X) th), some (vi y.1), some (vi y.2), none] [] M) (hE : ∀ z, o = .inr (.inl z) → V X 0 0 Q 45 [none, some (vi z), none, none] [] M) (hR : ∀ q, o = .inr (.inr q) → Q = Qn X (some (vi q)) M) : V X 0 0 Q 4 [some (vr (xG X) th), some (vi x1), some (vi x2), none] [] M := by
  unfold s_X5_pickedOfDone_4 at h
  refine x_iloadn hX dX5_pickedOfDone_4 rfl ?_
  refine x_aloadn hX dX5_pickedOfDone_5 rfl ?_
  refine x_getI hX dX5_pickedOfDone_6 fl_X5_30 rfl h0 ?_
  refine x_icmp_ge (tgt := 45) hX dX5_pickedOfDone_9 (by decide) rfl rfl (fun hc => ?_) (fun hc => ?_)
  · replace h := (if_pos hc).symm.trans h
    refine x_iconst hX dX5_pickedOfDone_12 ?_
    refine x_istoren (ls' := [some (vr (xG X) th), some (vi x1), some (vi x2), some (vi 0)]) hX dX5_pickedOfDone_13 rfl rfl rfl ?_
    refine x_weak (ls' := [some (vr (xG X) th), some (vi x1), some (vi x2), some (vi 0)]) [true, true, true, true] rfl ?_
    refine lp_use (x := (x1, 0)) (P := fun x => V X 0 0 Q 14 [some (vr (xG X) th), some (vi x.1), some (vi x2), some (vi x.2)] [] M) (PE := fun z_6 => V X 0 0 Q 39 [some (vr (xG X) th), some (vi z_6), some (vi x2), none] [] M) (PR := fun q => Q = Qn X (some (vi q)) M) h (fun x o hh hP hE hR => ts_X5_pickedOfDone_14 hX h0 x2 M x.1 x.2 o hh hP hE hR) (fun z_6 h => ?_) (fun q h => ?_)
    · show V X 0 0 Q 39 [some (vr (xG X) th), some (vi z_6), some (vi x2), none] [] M
      obtain ⟨x2_7, ex2_7, h⟩ := bnd_of h
      refine x_iinc (ls' := [some (vr (xG X) th), some (vi z_6), some (vi x2_7), none]) hX dX5_pickedOfDone_39 rfl rfl ex2_7 rfl ?_
      refine x_goto (tgt := 4) hX dX5_pickedOfDone_42 (by decide) ?_
      exact x_weak [true, true, true, false] rfl (hP (z_6, x2_7) (Option.some.inj h).symm)
    · exact hR q (Option.some.inj h).symm
  · replace h := (if_neg hc).symm.trans h
    exact x_weak [false, true, false, false] rfl (hE x1 (Option.some.inj h).symm)
noncomputable def f_X5_pickedOfDone (th : Nat) (M : Mem) : Option (Int) :=
  lpb (wh (fun x => s_X5_pickedOfDone_4 th M x.1 x.2) (0, 0)) (fun z_8 => some z_8) (fun q => some q)
set_option maxRecDepth 100000 in
set_option maxHeartbeats 4000000 in
theorem c_X5_pickedOfDone {l : Launch} {G : Gx} (hG : GOK G) (hl : l.stackTraces = false) {th : Nat} (h0 : at_ G th 15 0) (M : Mem) (r : Int) (h : f_X5_pickedOfDone th M = some r) : Cn l G mX5_pickedOfDone 2 [vr G th] M (some (vi r)) M := by
  refine Cn_of2 (ls := [some (vr G th), none, none, none]) hG hl kX5_pickedOfDone rfl (Nat.le_of_ble_eq_true rfl) rfl rfl rfl rfl rfl (fun X eG el hX => ?_)
  subst eG; subst el
  unfold f_X5_pickedOfDone at h
  refine x_iconst hX dX5_pickedOfDone_0 ?_
  refine x_istoren (ls' := [some (vr (xG X) th), some (vi 0), none, none]) hX dX5_pickedOfDone_1 rfl rfl rfl ?_
  refine x_iconst hX dX5_pickedOfDone_2 ?_
  refine x_istoren (ls' := [some (vr (xG X) th), some (vi 0), some (vi 0), none]) hX dX5_pickedOfDone_3 rfl rfl rfl ?_
  refine x_weak (ls' := [some (vr (xG X) th), some (vi 0), some (vi 0), none]) [true, true, true, false] rfl ?_
  refine lp_use (x := (0, 0)) (P := fun x => V X 0 0 (Qn X (some (vi r)) M) 4 [some (vr (xG X) th), some (vi x.1), some (vi x.2), none] [] M) (PE := fun z_8 => V X 0 0 (Qn X (some (vi r)) M) 45 [none, some (vi z_8), none, none] [] M) (PR := fun q => (Qn X (some (vi r)) M) = Qn X (some (vi q)) M) h (fun x o hh hP hE hR => ts_X5_pickedOfDone_4 hX h0 M x.1 x.2 o hh hP hE hR) (fun z_8 h => ?_) (fun q h => ?_)
  · show V X 0 0 (Qn X (some (vi r)) M) 45 [none, some (vi z_8), none, none] [] M
    refine x_iloadn hX dX5_pickedOfDone_45 rfl ?_
    cases h
    exact x_iret hX dX5_pickedOfDone_46 rfl
  · cases h; rfl
theorem dX5_repeatShort_0 : decode cX5_repeatShort 0 = .ok (.aload_n 0, 1) := by decide +kernel
theorem dX5_repeatShort_1 : decode cX5_repeatShort 1 = .ok (.iload_n 2, 1) := by decide +kernel
theorem dX5_repeatShort_2 : decode cX5_repeatShort 2 = .ok (.invokevirtual 48, 3) := by decide +kernel
theorem dX5_repeatShort_5 : decode cX5_repeatShort 5 = .ok (.istore_n 3, 1) := by decide +kernel
theorem dX5_repeatShort_6 : decode cX5_repeatShort 6 = .ok (.iconst 0, 1) := by decide +kernel
theorem dX5_repeatShort_7 : decode cX5_repeatShort 7 = .ok (.istore 4, 2) := by decide +kernel
theorem dX5_repeatShort_9 : decode cX5_repeatShort 9 = .ok (.iload 4, 2) := by decide +kernel
theorem dX5_repeatShort_11 : decode cX5_repeatShort 11 = .ok (.aload_n 0, 1) := by decide +kernel
theorem dX5_repeatShort_12 : decode cX5_repeatShort 12 = .ok (.getfield 18, 3) := by decide +kernel
theorem dX5_repeatShort_15 : decode cX5_repeatShort 15 = .ok (.iload_n 1, 1) := by decide +kernel
theorem dX5_repeatShort_16 : decode cX5_repeatShort 16 = .ok (.iaload, 1) := by decide +kernel
theorem dX5_repeatShort_17 : decode cX5_repeatShort 17 = .ok (.if_icmp .ge 43, 3) := by decide +kernel
theorem dX5_repeatShort_20 : decode cX5_repeatShort 20 = .ok (.aload_n 0, 1) := by decide +kernel
theorem dX5_repeatShort_21 : decode cX5_repeatShort 21 = .ok (.iload_n 1, 1) := by decide +kernel
theorem dX5_repeatShort_22 : decode cX5_repeatShort 22 = .ok (.iload 4, 2) := by decide +kernel
theorem dX5_repeatShort_24 : decode cX5_repeatShort 24 = .ok (.invokevirtual 34, 3) := by decide +kernel
theorem dX5_repeatShort_27 : decode cX5_repeatShort 27 = .ok (.istore 5, 2) := by decide +kernel
theorem dX5_repeatShort_29 : decode cX5_repeatShort 29 = .ok (.iload 5, 2) := by decide +kernel
theorem dX5_repeatShort_31 : decode cX5_repeatShort 31 = .ok (.ifCond .le 23, 3) := by decide +kernel
theorem dX5_repeatShort_34 : decode cX5_repeatShort 34 = .ok (.aload_n 0, 1) := by decide +kernel
theorem dX5_repeatShort_35 : decode cX5_repeatShort 35 = .ok (.iload_n 3, 1) := by decide +kernel
theorem dX5_repeatShort_36 : decode cX5_repeatShort 36 = .ok (.aload_n 0, 1) := by decide +kernel
theorem dX5_repeatShort_37 : decode cX5_repeatShort 37 = .ok (.getfield 21, 3) := by decide +kernel
theorem dX5_repeatShort_40 : decode cX5_repeatShort 40 = .ok (.iload_n 1, 1) := by decide +kernel
theorem dX5_repeatShort_41 : decode cX5_repeatShort 41 = .ok (.bipush 6, 2) := by decide +kernel
theorem dX5_repeatShort_43 : decode cX5_repeatShort 43 = .ok (.imul, 1) := by decide +kernel
theorem dX5_repeatShort_44 : decode cX5_repeatShort 44 = .ok (.iload 4, 2) := by decide +kernel
theorem dX5_repeatShort_46 : decode cX5_repeatShort 46 = .ok (.iadd, 1) := by decide +kernel
theorem dX5_repeatShort_47 : decode cX5_repeatShort 47 = .ok (.iaload, 1) := by decide +kernel
theorem dX5_repeatShort_48 : decode cX5_repeatShort 48 = .ok (.iload 5, 2) := by decide +kernel
theorem dX5_repeatShort_50 : decode cX5_repeatShort 50 = .ok (.invokevirtual 51, 3) := by decide +kernel
theorem dX5_repeatShort_53 : decode cX5_repeatShort 53 = .ok (.pop, 1) := by decide +kernel
theorem dX5_repeatShort_54 : decode cX5_repeatShort 54 = .ok (.iinc 4 1, 3) := by decide +kernel
theorem dX5_repeatShort_57 : decode cX5_repeatShort 57 = .ok (.goto (-48), 3) := by decide +kernel
theorem dX5_repeatShort_60 : decode cX5_repeatShort 60 = .ok (.aload_n 0, 1) := by decide +kernel
theorem dX5_repeatShort_61 : decode cX5_repeatShort 61 = .ok (.dup, 1) := by decide +kernel
theorem dX5_repeatShort_62 : decode cX5_repeatShort 62 = .ok (.getfield 45, 3) := by decide +kernel
theorem dX5_repeatShort_65 : decode cX5_repeatShort 65 = .ok (.iconst 1, 1) := by decide +kernel
theorem dX5_repeatShort_66 : decode cX5_repeatShort 66 = .ok (.iload_n 1, 1) := by decide +kernel
theorem dX5_repeatShort_67 : decode cX5_repeatShort 67 = .ok (.ishl, 1) := by decide +kernel
theorem dX5_repeatShort_68 : decode cX5_repeatShort 68 = .ok (.ior, 1) := by decide +kernel
theorem dX5_repeatShort_69 : decode cX5_repeatShort 69 = .ok (.putfield 45, 3) := by decide +kernel
theorem dX5_repeatShort_72 : decode cX5_repeatShort 72 = .ok (.iload_n 3, 1) := by decide +kernel
theorem dX5_repeatShort_73 : decode cX5_repeatShort 73 = .ok (.ireturn, 1) := by decide +kernel
noncomputable def j_X5_repeatShort_54_9 (th : Nat)  (x1 : Int) (x3 : Int) (x4 : Int) (M : Mem) : Option ((Int × Mem) ⊕ ((Mem) ⊕ (Int × Mem))) :=
  bnd (x4 + 1) (fun x4_9 => some (.inl (x4_9, M)))
set_option maxRecDepth 100000 in
set_option maxHeartbeats 4000000 in
theorem tj_X5_repeatShort_54_9 {X : Cxt} (hX : Gd X RX5 cX5_repeatShort 6 (some .int) 2) {th : Nat} (h0 : at_ (xG X) th 15 0)  (x1 : Int) (x3 : Int) (x4 : Int) (M : Mem) {Q : State → Prop} (o : (Int × Mem) ⊕ ((Mem) ⊕ (Int × Mem))) (h : j_X5_repeatShort_54_9 th x1 x3 x4 M = some o) (hP : ∀ y, o = .inl y → V X 0 0 Q 9 [some (vr (xG X) th), some (vi x1), none, some (vi x3), some (vi y.1), none] [] y.2) (hE : ∀ z, o = .inr (.inl z) → V X 0 0 Q 60 [some (vr (xG X) th), some (vi x1), none, some (vi x3), none, none] [] z) (hR : ∀ q, o = .inr (.inr q) → Q = Qn X (some (vi q.1)) q.2) : V X 0 0 Q 54 [some (vr (xG X) th), some (vi x1), none, some (vi x3), some (vi x4), none] [] M := by
  unfold j_X5_repeatShort_54_9 at h
  obtain ⟨x4_9, ex4_9, h⟩ := bnd_of h
  refine x_iinc (ls' := [some (vr (xG X) th), some (vi x1), none, some (vi x3), some (vi x4_9), none]) hX dX5_repeatShort_54 rfl rfl ex4_9 rfl ?_
  refine x_goto (tgt := 9) hX dX5_repeatShort_57 (by decide) ?_
  exact x_weak [true, true, false, true, true, false] rfl (hP (x4_9, M) (Option.some.inj h).symm)
noncomputable def s_X5_repeatShort_9 (th : Nat) (x1 : Int) (x3 : Int) (x4 : Int) (M : Mem) : Option ((Int × Mem) ⊕ ((Mem) ⊕ (Int × Mem))) :=
  gi x1 16 ((if w32 x4 < w32 (M (th + 3) (ix x1)) then cl1 (f_X5_shortIn th x1 x4 M) (fun r_4 => (if 0 < w32 r_4 then gi ((x1 * 6) + x4) 96 (cl2 (f_X5_appendLine th x3 (M (th + 4) (ix ((x1 * 6) + x4))) r_4 M) (fun r_7 M_8 => j_X5_repeatShort_54_9 th x1 x3 x4 M_8)) else j_X5_repeatShort_54_9 th x1 x3 x4 M)) else some (.inr (.inl M))))
set_option maxRecDepth 100000 in
set_option maxHeartbeats 4000000 in
theorem ts_X5_repeatShort_9 {X : Cxt} (hX : Gd X RX5 cX5_repeatShort 6 (some .int) 2) {th : Nat} (h0 : at_ (xG X) th 15 0) (x1 : Int) (x3 : Int) (x4 : Int) (M : Mem) {Q : State → Prop} (o : (Int × Mem) ⊕ ((Mem) ⊕ (Int × Mem))) (h : s_X5_repeatShort_9 th x1 x3 x4 M = some o) (hP : ∀ y, o = .inl y → V X 0 0 Q 9 [some (vr (xG X) th), some (vi x1), none, some (vi x3), some (vi y.1), none] [] y.2) (hE : ∀ z, o = .inr (.inl z) → V X 0 0 Q 60 [some (vr (xG X) th), some (vi x1), none, some (vi x3), none, none] [] z) (hR : ∀ q, o = .inr (.inr q) → Q = Qn X (some (vi q.1)) q.2) : V X 0 0 Q 9 [some (vr (xG X) th), some (vi x1), none, some (vi x3), some (vi x4), none] [] M := by
  unfold s_X5_repeatShort_9 at h
  refine x_iload hX dX5_repeatShort_9 rfl ?_
  refine x_aloadn hX dX5_repeatShort_11 rfl ?_
  refine x_getRj (j := th + 3) hX dX5_repeatShort_12 fl_X5_18 rfl h0 rfl ?_
  refine x_iloadn hX dX5_repeatShort_15 rfl ?_
  obtain ⟨b_3, h⟩ := gi_of h
  refine x_iald hX dX5_repeatShort_16 (fo_5_4 (gk hX) h0) b_3 rfl ?_
  refine x_icmp_ge (tgt := 60) hX dX5_repeatShort_17 (by decide) rfl rfl (fun hc => ?_) (fun hc => ?_)
  · replace h := (if_pos hc).symm.trans h
    refine x_aloadn hX dX5_repeatShort_20 rfl ?_
    refine x_iloadn hX dX5_repeatShort_21 rfl ?_
    refine x_iload hX dX5_repeatShort_22 rfl ?_
    obtain ⟨r_4, er_4, h⟩ := cl1_of h
    refine x_callVi (t := 5) (As := [vi x1, vi x4]) (rest := []) hX dX5_repeatShort_24 (c_X5_shortIn (gk hX) (gl hX) h0 x1 x4 M _ er_4) kX5_shortIn vX5_shortIn w_759 h0 rfl rfl rfl rfl (Nat.le_of_ble_eq_true rfl) z0 ?_
    refine x_istore (ls' := [some (vr (xG X) th), some (vi x1), none, some (vi x3), some (vi x4), some (vi r_4)]) hX dX5_repeatShort_27 rfl rfl rfl ?_
    refine x_iload hX dX5_repeatShort_29 rfl ?_
    refine x_if_le (tgt := 54) hX dX5_repeatShort_31 (by decide) rfl (fun hc => ?_) (fun hc => ?_)
    · replace h := (if_pos hc).symm.trans h
      refine x_aloadn hX dX5_repeatShort_34 rfl ?_
      refine x_iloadn hX dX5_repeatShort_35 rfl ?_
      refine x_aloadn hX dX5_repeatShort_36 rfl ?_
      refine x_getRj (j := th + 4) hX dX5_repeatShort_37 fl_X5_21 rfl h0 rfl ?_
      refine x_iloadn hX dX5_repeatShort_40 rfl ?_
      refine x_bipush hX dX5_repeatShort_41 bp_6 ?_
      refine x_imul hX dX5_repeatShort_43 ?_
      refine x_iload hX dX5_repeatShort_44 rfl ?_
      refine x_iadd hX dX5_repeatShort_46 ?_
      obtain ⟨b_6, h⟩ := gi_of h
      refine x_iald hX dX5_repeatShort_47 (fo_5_5 (gk hX) h0) b_6 rfl ?_
      refine x_iload hX dX5_repeatShort_48 rfl ?_
      obtain ⟨r_7, M_8, er_7, h⟩ := cl2_of h
      refine x_callVi (t := 5) (As := [vi x3, vi (M (th + 4) (ix ((x1 * 6) + x4))), vi r_4]) (rest := []) hX dX5_repeatShort_50 (c_X5_appendLine (gk hX) (gl hX) h0 x3 (M (th + 4) (ix ((x1 * 6) + x4))) r_4 M _ _ er_7) kX5_appendLine vX5_appendLine w_1587 h0 rfl rfl rfl rfl (Nat.le_of_ble_eq_true rfl) z0 ?_
      refine x_pop hX dX5_repeatShort_53 rfl ?_
      exact x_weak [true, true, false, true, true, false] rfl (tj_X5_repeatShort_54_9 hX h0 x1 x3 x4 M_8 o h hP hE hR)
    · replace h := (if_neg hc).symm.trans h
      exact x_weak [true, true, false, true, true, false] rfl (tj_X5_repeatShort_54_9 hX h0 x1 x3 x4 M o h hP hE hR)
  · replace h := (if_neg hc).symm.trans h
    exact x_weak [true, true, false, true, false, false] rfl (hE M (Option.some.inj h).symm)
noncomputable def f_X5_repeatShort (th : Nat) (x1 : Int) (x2 : Int) (M : Mem) : Option (Int × Mem) :=
  cl2 (f_X5_append th x2 M) (fun r_1 M_2 => lpb (wh (fun x => s_X5_repeatShort_9 th x1 r_1 x.1 x.2) (0, M_2)) (fun z_10 => bnd (upd2 z_10 th 1 (i_or (z_10 th 1) (i_shl 1 x1))) (fun M_11 => some (r_1, M_11))) (fun q => some q))
set_option maxRecDepth 100000 in
set_option maxHeartbeats 4000000 in
theorem c_X5_repeatShort {l : Launch} {G : Gx} (hG : GOK G) (hl : l.stackTraces = false) {th : Nat} (h0 : at_ G th 15 0) (x1 : Int) (x2 : Int) (M : Mem) (r : Int) (Mr : Mem) (h : f_X5_repeatShort th x1 x2 M = some (r, Mr)) : Cn l G mX5_repeatShort 2 [vr G th, vi x1, vi x2] M (some (vi r)) Mr := by
  refine Cn_of2 (ls := [some (vr G th), some (vi x1), some (vi x2), none, none, none]) hG hl kX5_repeatShort rfl (Nat.le_of_ble_eq_true rfl) rfl rfl rfl rfl rfl (fun X eG el hX => ?_)
  subst eG; subst el
  unfold f_X5_repeatShort at h
  refine x_aloadn hX dX5_repeatShort_0 rfl ?_
  refine x_iloadn hX dX5_repeatShort_1 rfl ?_
  obtain ⟨r_1, M_2, er_1, h⟩ := cl2_of h
  refine x_callVi (t := 5) (As := [vi x2]) (rest := []) hX dX5_repeatShort_2 (c_X5_append (gk hX) (gl hX) h0 x2 M _ _ er_1) kX5_append vX5_append w_1586 h0 rfl rfl rfl rfl (Nat.le_of_ble_eq_true rfl) z0 ?_
  refine x_istoren (ls' := [some (vr (xG X) th), some (vi x1), some (vi x2), some (vi r_1), none, none]) hX dX5_repeatShort_5 rfl rfl rfl ?_
  refine x_iconst hX dX5_repeatShort_6 ?_
  refine x_istore (ls' := [some (vr (xG X) th), some (vi x1), some (vi x2), some (vi r_1), some (vi 0), none]) hX dX5_repeatShort_7 rfl rfl rfl ?_
  refine x_weak (ls' := [some (vr (xG X) th), some (vi x1), none, some (vi r_1), some (vi 0), none]) [true, true, false, true, true, false] rfl ?_
  refine lp_use (x := (0, M_2)) (P := fun x => V X 0 0 (Qn X (some (vi r)) Mr) 9 [some (vr (xG X) th), some (vi x1), none, some (vi r_1), some (vi x.1), none] [] x.2) (PE := fun z_10 => V X 0 0 (Qn X (some (vi r)) Mr) 60 [some (vr (xG X) th), some (vi x1), none, some (vi r_1), none, none] [] z_10) (PR := fun q => (Qn X (some (vi r)) Mr) = Qn X (some (vi q.1)) q.2) h (fun x o hh hP hE hR => ts_X5_repeatShort_9 hX h0 x1 r_1 x.1 x.2 o hh hP hE hR) (fun z_10 h => ?_) (fun q h => ?_)
  · show V X 0 0 (Qn X (some (vi r)) Mr) 60 [some (vr (xG X) th), some (vi x1), none, some (vi r_1), none, none] [] z_10
    refine x_aloadn hX dX5_repeatShort_60 rfl ?_
    refine x_dup hX dX5_repeatShort_61 rfl ?_
    refine x_getI hX dX5_repeatShort_62 fl_X5_45 rfl h0 ?_
    refine x_iconst hX dX5_repeatShort_65 ?_
    refine x_iloadn hX dX5_repeatShort_66 rfl ?_
    refine x_ishl hX dX5_repeatShort_67 ?_
    refine x_ior hX dX5_repeatShort_68 ?_
    obtain ⟨M_11, eM_11, h⟩ := bnd_of h
    refine x_putI hX dX5_repeatShort_69 fp_X5_45 rfl h0 (x_meq eM_11 ?_)
    refine x_iloadn hX dX5_repeatShort_72 rfl ?_
    cases h
    exact x_iret hX dX5_repeatShort_73 rfl
  · cases h; rfl
theorem dX6_survey_0 : decode cX6_survey 0 = .ok (.aload_n 0, 1) := by decide +kernel
theorem dX6_survey_1 : decode cX6_survey 1 = .ok (.aload_n 1, 1) := by decide +kernel
theorem dX6_survey_2 : decode cX6_survey 2 = .ok (.iload_n 2, 1) := by decide +kernel
theorem dX6_survey_3 : decode cX6_survey 3 = .ok (.invokevirtual 36, 3) := by decide +kernel
theorem dX6_survey_6 : decode cX6_survey 6 = .ok (.putfield 42, 3) := by decide +kernel
theorem dX6_survey_9 : decode cX6_survey 9 = .ok (.aload_n 0, 1) := by decide +kernel
theorem dX6_survey_10 : decode cX6_survey 10 = .ok (.aload_n 1, 1) := by decide +kernel
theorem dX6_survey_11 : decode cX6_survey 11 = .ok (.getfield 46, 3) := by decide +kernel
theorem dX6_survey_14 : decode cX6_survey 14 = .ok (.getfield 50, 3) := by decide +kernel
theorem dX6_survey_17 : decode cX6_survey 17 = .ok (.iconst 1, 1) := by decide +kernel
theorem dX6_survey_18 : decode cX6_survey 18 = .ok (.iadd, 1) := by decide +kernel
theorem dX6_survey_19 : decode cX6_survey 19 = .ok (.putfield 55, 3) := by decide +kernel
theorem dX6_survey_22 : decode cX6_survey 22 = .ok (.iconst 0, 1) := by decide +kernel
theorem dX6_survey_23 : decode cX6_survey 23 = .ok (.istore_n 3, 1) := by decide +kernel
theorem dX6_survey_24 : decode cX6_survey 24 = .ok (.iload_n 3, 1) := by decide +kernel
theorem dX6_survey_25 : decode cX6_survey 25 = .ok (.bipush 6, 2) := by decide +kernel
theorem dX6_survey_27 : decode cX6_survey 27 = .ok (.if_icmp .ge 38, 3) := by decide +kernel
theorem dX6_survey_30 : decode cX6_survey 30 = .ok (.aload_n 0, 1) := by decide +kernel
theorem dX6_survey_31 : decode cX6_survey 31 = .ok (.getfield 9, 3) := by decide +kernel
theorem dX6_survey_34 : decode cX6_survey 34 = .ok (.iload_n 3, 1) := by decide +kernel
theorem dX6_survey_35 : decode cX6_survey 35 = .ok (.iconst 0, 1) := by decide +kernel
theorem dX6_survey_36 : decode cX6_survey 36 = .ok (.iastore, 1) := by decide +kernel
theorem dX6_survey_37 : decode cX6_survey 37 = .ok (.aload_n 0, 1) := by decide +kernel
theorem dX6_survey_38 : decode cX6_survey 38 = .ok (.getfield 21, 3) := by decide +kernel
theorem dX6_survey_41 : decode cX6_survey 41 = .ok (.iload_n 3, 1) := by decide +kernel
theorem dX6_survey_42 : decode cX6_survey 42 = .ok (.iconst 0, 1) := by decide +kernel
theorem dX6_survey_43 : decode cX6_survey 43 = .ok (.iastore, 1) := by decide +kernel
theorem dX6_survey_44 : decode cX6_survey 44 = .ok (.aload_n 0, 1) := by decide +kernel
theorem dX6_survey_45 : decode cX6_survey 45 = .ok (.getfield 15, 3) := by decide +kernel
theorem dX6_survey_48 : decode cX6_survey 48 = .ok (.iload_n 3, 1) := by decide +kernel
theorem dX6_survey_49 : decode cX6_survey 49 = .ok (.bipush 20, 2) := by decide +kernel
theorem dX6_survey_51 : decode cX6_survey 51 = .ok (.iastore, 1) := by decide +kernel
theorem dX6_survey_52 : decode cX6_survey 52 = .ok (.aload_n 0, 1) := by decide +kernel
theorem dX6_survey_53 : decode cX6_survey 53 = .ok (.getfield 18, 3) := by decide +kernel
theorem dX6_survey_56 : decode cX6_survey 56 = .ok (.iload_n 3, 1) := by decide +kernel
theorem dX6_survey_57 : decode cX6_survey 57 = .ok (.iconst 0, 1) := by decide +kernel
theorem dX6_survey_58 : decode cX6_survey 58 = .ok (.iastore, 1) := by decide +kernel
theorem dX6_survey_59 : decode cX6_survey 59 = .ok (.iinc 3 1, 3) := by decide +kernel
theorem dX6_survey_62 : decode cX6_survey 62 = .ok (.goto (-38), 3) := by decide +kernel
theorem dX6_survey_65 : decode cX6_survey 65 = .ok (.iconst 0, 1) := by decide +kernel
theorem dX6_survey_66 : decode cX6_survey 66 = .ok (.istore_n 3, 1) := by decide +kernel
theorem dX6_survey_67 : decode cX6_survey 67 = .ok (.iload_n 3, 1) := by decide +kernel
theorem dX6_survey_68 : decode cX6_survey 68 = .ok (.aload_n 1, 1) := by decide +kernel
theorem dX6_survey_69 : decode cX6_survey 69 = .ok (.getfield 58, 3) := by decide +kernel
theorem dX6_survey_72 : decode cX6_survey 72 = .ok (.getfield 62, 3) := by decide +kernel
theorem dX6_survey_75 : decode cX6_survey 75 = .ok (.if_icmp .ge 42, 3) := by decide +kernel
theorem dX6_survey_78 : decode cX6_survey 78 = .ok (.aload_n 0, 1) := by decide +kernel
theorem dX6_survey_79 : decode cX6_survey 79 = .ok (.getfield 42, 3) := by decide +kernel
theorem dX6_survey_82 : decode cX6_survey 82 = .ok (.iload_n 3, 1) := by decide +kernel
theorem dX6_survey_83 : decode cX6_survey 83 = .ok (.ishr, 1) := by decide +kernel
theorem dX6_survey_84 : decode cX6_survey 84 = .ok (.iconst 1, 1) := by decide +kernel
theorem dX6_survey_85 : decode cX6_survey 85 = .ok (.iand, 1) := by decide +kernel
theorem dX6_survey_86 : decode cX6_survey 86 = .ok (.ifCond .eq 25, 3) := by decide +kernel
theorem dX6_survey_89 : decode cX6_survey 89 = .ok (.aload_n 0, 1) := by decide +kernel
theorem dX6_survey_90 : decode cX6_survey 90 = .ok (.aload_n 1, 1) := by decide +kernel
theorem dX6_survey_91 : decode cX6_survey 91 = .ok (.getfield 58, 3) := by decide +kernel
theorem dX6_survey_94 : decode cX6_survey 94 = .ok (.getfield 67, 3) := by decide +kernel
theorem dX6_survey_97 : decode cX6_survey 97 = .ok (.iload_n 3, 1) := by decide +kernel
theorem dX6_survey_98 : decode cX6_survey 98 = .ok (.iaload, 1) := by decide +kernel
theorem dX6_survey_99 : decode cX6_survey 99 = .ok (.aload_n 1, 1) := by decide +kernel
theorem dX6_survey_100 : decode cX6_survey 100 = .ok (.getfield 58, 3) := by decide +kernel
theorem dX6_survey_103 : decode cX6_survey 103 = .ok (.getfield 70, 3) := by decide +kernel
theorem dX6_survey_106 : decode cX6_survey 106 = .ok (.iload_n 3, 1) := by decide +kernel
theorem dX6_survey_107 : decode cX6_survey 107 = .ok (.iaload, 1) := by decide +kernel
theorem dX6_survey_108 : decode cX6_survey 108 = .ok (.invokevirtual 73, 3) := by decide +kernel
theorem dX6_survey_111 : decode cX6_survey 111 = .ok (.iinc 3 1, 3) := by decide +kernel
theorem dX6_survey_114 : decode cX6_survey 114 = .ok (.goto (-47), 3) := by decide +kernel
theorem dX6_survey_117 : decode cX6_survey 117 = .ok (.return_, 1) := by decide +kernel
noncomputable def s_X6_survey_24 (th : Nat) (a1 : Nat) (x3 : Int) (M : Mem) : Option ((Int × Mem) ⊕ ((Mem) ⊕ (Mem))) :=
  (if w32 x3 < 6 then gi x3 6 (bnd (upd2 M (th + 1) (ix x3) 0) (fun M_5 => gi x3 6 (bnd (upd2 M_5 (th + 4) (ix x3) 0) (fun M_7 => gi x3 6 (bnd (upd2 M_7 (th + 2) (ix x3) 20) (fun M_9 => gi x3 6 (bnd (upd2 M_9 (th + 3) (ix x3) 0) (fun M_11 => bnd (x3 + 1) (fun x3_13 => some (.inl (x3_13, M_11))))))))))) else some (.inr (.inl M)))
set_option maxRecDepth 100000 in
set_option maxHeartbeats 4000000 in
theorem ts_X6_survey_24 {X : Cxt} (hX : Gd X RX6 cX6_survey 4 (none) 2) {th : Nat} (h0 : at_ (xG X) th 16 0) {a1 : Nat} (h1 : at_ (xG X) a1 11 0) (x3 : Int) (M : Mem) {Q : State → Prop} (o : (Int × Mem) ⊕ ((Mem) ⊕ (Mem))) (h : s_X6_survey_24 th a1 x3 M = some o) (hP : ∀ y, o = .inl y → V X 0 0 Q 24 [some (vr (xG X) th), some (vr (xG X) a1), none, some (vi y.1)] [] y.2) (hE : ∀ z, o = .inr (.inl z) → V X 0 0 Q 65 [some (vr (xG X) th), some (vr (xG X) a1), none, none] [] z) (hR : ∀ q, o = .inr (.inr q) → Q = Qn X none q) : V X 0 0 Q 24 [some (vr (xG X) th), some (vr (xG X) a1), none, some (vi x3)] [] M := by
  unfold s_X6_survey_24 at h
  refine x_iloadn hX dX6_survey_24 rfl ?_
  refine x_bipush hX dX6_survey_25 bp_6 ?_
  refine x_icmp_ge (tgt := 65) hX dX6_survey_27 (by decide) rfl cw_6 (fun hc => ?_) (fun hc => ?_)
  · replace h := (if_pos hc).symm.trans h
    refine x_aloadn hX dX6_survey_30 rfl ?_
    refine x_getRj (j := th + 1) hX dX6_survey_31 fl_X6_9 rfl h0 rfl ?_
    refine x_iloadn hX dX6_survey_34 rfl ?_
    refine x_iconst hX dX6_survey_35 ?_
    obtain ⟨b_6, h⟩ := gi_of h
    obtain ⟨M_5, eM_5, h⟩ := bnd_of h
    refine x_iast hX dX6_survey_36 (fo_6_2 (gk hX) h0) b_6 rfl (x_meq eM_5 ?_)
    refine x_aloadn hX dX6_survey_37 rfl ?_
    refine x_getRj (j := th + 4) hX dX6_survey_38 fl_X6_21 rfl h0 rfl ?_
    refine x_iloadn hX dX6_survey_41 rfl ?_
    refine x_iconst hX dX6_survey_42 ?_
    obtain ⟨b_8, h⟩ := gi_of h
    obtain ⟨M_7, eM_7, h⟩ := bnd_of h
    refine x_iast hX dX6_survey_43 (fo_6_5 (gk hX) h0) b_8 rfl (x_meq eM_7 ?_)
    refine x_aloadn hX dX6_survey_44 rfl ?_
    refine x_getRj (j := th + 2) hX dX6_survey_45 fl_X6_15 rfl h0 rfl ?_
    refine x_iloadn hX dX6_survey_48 rfl ?_
    refine x_bipush hX dX6_survey_49 bp_20 ?_
    obtain ⟨b_10, h⟩ := gi_of h
    obtain ⟨M_9, eM_9, h⟩ := bnd_of h
    refine x_iast hX dX6_survey_51 (fo_6_3 (gk hX) h0) b_10 rfl (x_meq eM_9 ?_)
    refine x_aloadn hX dX6_survey_52 rfl ?_
    refine x_getRj (j := th + 3) hX dX6_survey_53 fl_X6_18 rfl h0 rfl ?_
    refine x_iloadn hX dX6_survey_56 rfl ?_
    refine x_iconst hX dX6_survey_57 ?_
    obtain ⟨b_12, h⟩ := gi_of h
    obtain ⟨M_11, eM_11, h⟩ := bnd_of h
    refine x_iast hX dX6_survey_58 (fo_6_4 (gk hX) h0) b_12 rfl (x_meq eM_11 ?_)
    obtain ⟨x3_13, ex3_13, h⟩ := bnd_of h
    refine x_iinc (ls' := [some (vr (xG X) th), some (vr (xG X) a1), none, some (vi x3_13)]) hX dX6_survey_59 rfl rfl ex3_13 rfl ?_
    refine x_goto (tgt := 24) hX dX6_survey_62 (by decide) ?_
    exact x_weak [true, true, false, true] rfl (hP (x3_13, M_11) (Option.some.inj h).symm)
  · replace h := (if_neg hc).symm.trans h
    exact x_weak [true, true, false, false] rfl (hE M (Option.some.inj h).symm)
noncomputable def j_X6_survey_111_67 (th : Nat) (a1 : Nat)  (x3 : Int) (M : Mem) : Option ((Int × Mem) ⊕ ((Mem) ⊕ (Mem))) :=
  bnd (x3 + 1) (fun x3_15 => some (.inl (x3_15, M)))
set_option maxRecDepth 100000 in
set_option maxHeartbeats 4000000 in
theorem tj_X6_survey_111_67 {X : Cxt} (hX : Gd X RX6 cX6_survey 4 (none) 2) {th : Nat} (h0 : at_ (xG X) th 16 0) {a1 : Nat} (h1 : at_ (xG X) a1 11 0)  (x3 : Int) (M : Mem) {Q : State → Prop} (o : (Int × Mem) ⊕ ((Mem) ⊕ (Mem))) (h : j_X6_survey_111_67 th a1 x3 M = some o) (hP : ∀ y, o = .inl y → V X 0 0 Q 67 [some (vr (xG X) th), some (vr (xG X) a1), none, some (vi y.1)] [] y.2) (hE : ∀ z, o = .inr (.inl z) → V X 0 0 Q 117 [none, none, none, none] [] z) (hR : ∀ q, o = .inr (.inr q) → Q = Qn X none q) : V X 0 0 Q 111 [some (vr (xG X) th), some (vr (xG X) a1), none, some (vi x3)] [] M := by
  unfold j_X6_survey_111_67 at h
  obtain ⟨x3_15, ex3_15, h⟩ := bnd_of h
  refine x_iinc (ls' := [some (vr (xG X) th), some (vr (xG X) a1), none, some (vi x3_15)]) hX dX6_survey_111 rfl rfl ex3_15 rfl ?_
  refine x_goto (tgt := 67) hX dX6_survey_114 (by decide) ?_
  exact x_weak [true, true, false, true] rfl (hP (x3_15, M) (Option.some.inj h).symm)
noncomputable def s_X6_survey_67 (th : Nat) (a1 : Nat) (x3 : Int) (M : Mem) : Option ((Int × Mem) ⊕ ((Mem) ⊕ (Mem))) :=
  (if w32 x3 < w32 (M (a1 + 4) 0) then (if w32 (i_and (i_shr (M th 0) x3) 1) = 0 then j_X6_survey_111_67 th a1 x3 M else gi x3 24 (gi x3 24 (cl1 (f_X6_note th (M (a1 + 4 + 1) (ix x3)) (M (a1 + 4 + 2) (ix x3)) M) (fun M_19 => j_X6_survey_111_67 th a1 x3 M_19)))) else some (.inr (.inl M)))
set_option maxRecDepth 100000 in
set_option maxHeartbeats 4000000 in
theorem ts_X6_survey_67 {X : Cxt} (hX : Gd X RX6 cX6_survey 4 (none) 2) {th : Nat} (h0 : at_ (xG X) th 16 0) {a1 : Nat} (h1 : at_ (xG X) a1 11 0) (x3 : Int) (M : Mem) {Q : State → Prop} (o : (Int × Mem) ⊕ ((Mem) ⊕ (Mem))) (h : s_X6_survey_67 th a1 x3 M = some o) (hP : ∀ y, o = .inl y → V X 0 0 Q 67 [some (vr (xG X) th), some (vr (xG X) a1), none, some (vi y.1)] [] y.2) (hE : ∀ z, o = .inr (.inl z) → V X 0 0 Q 117 [none, none, none, none] [] z) (hR : ∀ q, o = .inr (.inr q) → Q = Qn X none q) : V X 0 0 Q 67 [some (vr (xG X) th), some (vr (xG X) a1), none, some (vi x3)] [] M := by
  unfold s_X6_survey_67 at h
  refine x_iloadn hX dX6_survey_67 rfl ?_
  refine x_aloadn hX dX6_survey_68 rfl ?_
  refine x_getRj (j := a1 + 4) hX dX6_survey_69 fl_X6_58 rfl h1 rfl ?_
  refine x_getI hX dX6_survey_72 fl_X6_62 rfl (fo_1_1 (gk hX) h1) ?_
  refine x_icmp_ge (tgt := 117) hX dX6_survey_75 (by decide) rfl rfl (fun hc => ?_) (fun hc => ?_)
  · replace h := (if_pos hc).symm.trans h
    refine x_aloadn hX dX6_survey_78 rfl ?_
    refine x_getI hX dX6_survey_79 fl_X6_42 rfl h0 ?_
    refine x_iloadn hX dX6_survey_82 rfl ?_
    refine x_ishr hX dX6_survey_83 ?_
    refine x_iconst hX dX6_survey_84 ?_
    refine x_iand hX dX6_survey_85 ?_
    refine x_if_eq (tgt := 111) hX dX6_survey_86 (by decide) rfl (fun hc => ?_) (fun hc => ?_)
    · replace h := (if_pos hc).symm.trans h
      exact x_weak [true, true, false, true] rfl (tj_X6_survey_111_67 hX h0 h1 x3 M o h hP hE hR)
    · replace h := (if_neg hc).symm.trans h
      refine x_aloadn hX dX6_survey_89 rfl ?_
      refine x_aloadn hX dX6_survey_90 rfl ?_
      refine x_getRj (j := a1 + 4) hX dX6_survey_91 fl_X6_58 rfl h1 rfl ?_
      refine x_getRj (j := a1 + 4 + 1) hX dX6_survey_94 fl_X6_67 rfl (fo_1_1 (gk hX) h1) rfl ?_
      refine x_iloadn hX dX6_survey_97 rfl ?_
      obtain ⟨b_16, h⟩ := gi_of h
      refine x_iald hX dX6_survey_98 (fo_2_1 (gk hX) (fo_1_1 (gk hX) h1)) b_16 rfl ?_
      refine x_aloadn hX dX6_survey_99 rfl ?_
      refine x_getRj (j := a1 + 4) hX dX6_survey_100 fl_X6_58 rfl h1 rfl ?_
      refine x_getRj (j := a1 + 4 + 2) hX dX6_survey_103 fl_X6_70 rfl (fo_1_1 (gk hX) h1) rfl ?_
      refine x_iloadn hX dX6_survey_106 rfl ?_
      obtain ⟨b_17, h⟩ := gi_of h
      refine x_iald hX dX6_survey_107 (fo_2_2 (gk hX) (fo_1_1 (gk hX) h1)) b_17 rfl ?_
      obtain ⟨M_19, er_18, h⟩ := cl1_of h
      refine x_callVv (t := 6) (As := [vi (M (a1 + 4 + 1) (ix x3)), vi (M (a1 + 4 + 2) (ix x3))]) (rest := []) hX dX6_survey_108 (c_X6_note (gk hX) (gl hX) h0 (M (a1 + 4 + 1) (ix x3)) (M (a1 + 4 + 2) (ix x3)) M _ er_18) kX6_note vX6_note w_616 h0 rfl rfl rfl rfl (Nat.le_of_ble_eq_true rfl) z0 ?_
      exact x_weak [true, true, false, true] rfl (tj_X6_survey_111_67 hX h0 h1 x3 M_19 o h hP hE hR)
  · replace h := (if_neg hc).symm.trans h
    exact x_weak [false, false, false, false] rfl (hE M (Option.some.inj h).symm)
noncomputable def f_X6_survey (th : Nat) (a1 : Nat) (x2 : Int) (M : Mem) : Option (Mem) :=
  cl1 (f_X1_itemsOfAll a1 x2 M) (fun r_1 => bnd (upd2 M th 0 r_1) (fun M_3 => bnd (upd2 M_3 th 1 ((M_3 (a1 + 1) 1) + 1)) (fun M_4 => lpb (wh (fun x => s_X6_survey_24 th a1 x.1 x.2) (0, M_4)) (fun z_14 => lpb (wh (fun x => s_X6_survey_67 th a1 x.1 x.2) (0, z_14)) (fun z_20 => some z_20) (fun q => some q)) (fun q => some q))))
set_option maxRecDepth 100000 in
set_option maxHeartbeats 4000000 in
theorem c_X6_survey {l : Launch} {G : Gx} (hG : GOK G) (hl : l.stackTraces = false) {th : Nat} (h0 : at_ G th 16 0) {a1 : Nat} (h1 : at_ G a1 11 0) (x2 : Int) (M : Mem) (Mr : Mem) (h : f_X6_survey th a1 x2 M = some Mr) : Cn l G mX6_survey 2 [vr G th, vr G a1, vi x2] M none Mr := by
  refine Cn_of2 (ls := [some (vr G th), some (vr G a1), some (vi x2), none]) hG hl kX6_survey rfl (Nat.le_of_ble_eq_true rfl) rfl rfl rfl rfl rfl (fun X eG el hX => ?_)
  subst eG; subst el
  unfold f_X6_survey at h
  refine x_aloadn hX dX6_survey_0 rfl ?_
  refine x_aloadn hX dX6_survey_1 rfl ?_
  refine x_iloadn hX dX6_survey_2 rfl ?_
  obtain ⟨r_1, er_1, h⟩ := cl1_of h
  refine x_callVi (t := 1) (As := [vi x2]) (rest := [vr (xG X) th]) hX dX6_survey_3 (c_X1_itemsOfAll (gk hX) (gl hX) h1 x2 M _ er_1) kX1_itemsOfAll vX1_itemsOfAll w_612 h1 rfl rfl rfl rfl (Nat.le_of_ble_eq_true rfl) z0 ?_
  obtain ⟨M_3, eM_3, h⟩ := bnd_of h
  refine x_putI hX dX6_survey_6 fp_X6_42 rfl h0 (x_meq eM_3 ?_)
  refine x_aloadn hX dX6_survey_9 rfl ?_
  refine x_aloadn hX dX6_survey_10 rfl ?_
  refine x_getRj (j := a1 + 1) hX dX6_survey_11 fl_X6_46 rfl h1 rfl ?_
  refine x_getI hX dX6_survey_14 fl_X6_50 rfl (fo_1_0 (gk hX) h1) ?_
  refine x_iconst hX dX6_survey_17 ?_
  refine x_iadd hX dX6_survey_18 ?_
  obtain ⟨M_4, eM_4, h⟩ := bnd_of h
  refine x_putI hX dX6_survey_19 fp_X6_55 rfl h0 (x_meq eM_4 ?_)
  refine x_iconst hX dX6_survey_22 ?_
  refine x_istoren (ls' := [some (vr (xG X) th), some (vr (xG X) a1), some (vi x2), some (vi 0)]) hX dX6_survey_23 rfl rfl rfl ?_
  refine x_weak (ls' := [some (vr (xG X) th), some (vr (xG X) a1), none, some (vi 0)]) [true, true, false, true] rfl ?_
  refine lp_use (x := (0, M_4)) (P := fun x => V X 0 0 (Qn X none Mr) 24 [some (vr (xG X) th), some (vr (xG X) a1), none, some (vi x.1)] [] x.2) (PE := fun z_14 => V X 0 0 (Qn X none Mr) 65 [some (vr (xG X) th), some (vr (xG X) a1), none, none] [] z_14) (PR := fun q => (Qn X none Mr) = Qn X none q) h (fun x o hh hP hE hR => ts_X6_survey_24 hX h0 h1 x.1 x.2 o hh hP hE hR) (fun z_14 h => ?_) (fun q h => ?_)
  · show V X 0 0 (Qn X none Mr) 65 [some (vr (xG X) th), some (vr (xG X) a1), none, none] [] z_14
    refine x_iconst hX dX6_survey_65 ?_
    refine x_istoren (ls' := [some (vr (xG X) th), some (vr (xG X) a1), none, some (vi 0)]) hX dX6_survey_66 rfl rfl rfl ?_
    refine x_weak (ls' := [some (vr (xG X) th), some (vr (xG X) a1), none, some (vi 0)]) [true, true, false, true] rfl ?_
    refine lp_use (x := (0, z_14)) (P := fun x => V X 0 0 (Qn X none Mr) 67 [some (vr (xG X) th), some (vr (xG X) a1), none, some (vi x.1)] [] x.2) (PE := fun z_20 => V X 0 0 (Qn X none Mr) 117 [none, none, none, none] [] z_20) (PR := fun q => (Qn X none Mr) = Qn X none q) h (fun x o hh hP hE hR => ts_X6_survey_67 hX h0 h1 x.1 x.2 o hh hP hE hR) (fun z_20 h => ?_) (fun q h => ?_)
    · show V X 0 0 (Qn X none Mr) 117 [none, none, none, none] [] z_20
      cases h
      exact x_vret hX dX6_survey_117 rfl
    · cases h; rfl
  · cases h; rfl
theorem dX6_itemsIn_0 : decode cX6_itemsIn 0 = .ok (.iconst 0, 1) := by decide +kernel
theorem dX6_itemsIn_1 : decode cX6_itemsIn 1 = .ok (.istore_n 3, 1) := by decide +kernel
theorem dX6_itemsIn_2 : decode cX6_itemsIn 2 = .ok (.aload_n 1, 1) := by decide +kernel
theorem dX6_itemsIn_3 : decode cX6_itemsIn 3 = .ok (.getfield 97, 3) := by decide +kernel
theorem dX6_itemsIn_6 : decode cX6_itemsIn 6 = .ok (.iload_n 2, 1) := by decide +kernel
theorem dX6_itemsIn_7 : decode cX6_itemsIn 7 = .ok (.iaload, 1) := by decide +kernel
theorem dX6_itemsIn_8 : decode cX6_itemsIn 8 = .ok (.istore 4, 2) := by decide +kernel
theorem dX6_itemsIn_10 : decode cX6_itemsIn 10 = .ok (.iload 4, 2) := by decide +kernel
theorem dX6_itemsIn_12 : decode cX6_itemsIn 12 = .ok (.aload_n 1, 1) := by decide +kernel
theorem dX6_itemsIn_13 : decode cX6_itemsIn 13 = .ok (.iload_n 2, 1) := by decide +kernel
theorem dX6_itemsIn_14 : decode cX6_itemsIn 14 = .ok (.invokevirtual 100, 3) := by decide +kernel
theorem dX6_itemsIn_17 : decode cX6_itemsIn 17 = .ok (.if_icmp .ge 19, 3) := by decide +kernel
theorem dX6_itemsIn_20 : decode cX6_itemsIn 20 = .ok (.iload_n 3, 1) := by decide +kernel
theorem dX6_itemsIn_21 : decode cX6_itemsIn 21 = .ok (.aload_n 0, 1) := by decide +kernel
theorem dX6_itemsIn_22 : decode cX6_itemsIn 22 = .ok (.getfield 21, 3) := by decide +kernel
theorem dX6_itemsIn_25 : decode cX6_itemsIn 25 = .ok (.iload 4, 2) := by decide +kernel
theorem dX6_itemsIn_27 : decode cX6_itemsIn 27 = .ok (.iaload, 1) := by decide +kernel
theorem dX6_itemsIn_28 : decode cX6_itemsIn 28 = .ok (.iadd, 1) := by decide +kernel
theorem dX6_itemsIn_29 : decode cX6_itemsIn 29 = .ok (.istore_n 3, 1) := by decide +kernel
theorem dX6_itemsIn_30 : decode cX6_itemsIn 30 = .ok (.iinc 4 1, 3) := by decide +kernel
theorem dX6_itemsIn_33 : decode cX6_itemsIn 33 = .ok (.goto (-23), 3) := by decide +kernel
theorem dX6_itemsIn_36 : decode cX6_itemsIn 36 = .ok (.iload_n 3, 1) := by decide +kernel
theorem dX6_itemsIn_37 : decode cX6_itemsIn 37 = .ok (.ireturn, 1) := by decide +kernel
noncomputable def s_X6_itemsIn_10 (th : Nat) (a1 : Nat) (x2 : Int) (M : Mem) (x3 : Int) (x4 : Int) : Option ((Int × Int) ⊕ ((Int) ⊕ (Int))) :=
  cl1 (f_X3_endOf a1 x2 M) (fun r_3 => (if w32 x4 < w32 r_3 then gi x4 6 (bnd (x3 + (M (th + 4) (ix x4))) (fun x3_6 => bnd (x4 + 1) (fun x4_7 => some (.inl (x3_6, x4_7))))) else some (.inr (.inl x3))))
set_option maxRecDepth 100000 in
set_option maxHeartbeats 4000000 in
theorem ts_X6_itemsIn_10 {X : Cxt} (hX : Gd X RX6 cX6_itemsIn 5 (some .int) 2) {th : Nat} (h0 : at_ (xG X) th 16 0) {a1 : Nat} (h1 : at_ (xG X) a1 13 0) (x2 : Int) (M : Mem) (x3 : Int) (x4 : Int) {Q : State → Prop} (o : (Int × Int) ⊕ ((Int) ⊕ (Int))) (h : s_X6_itemsIn_10 th a1 x2 M x3 x4 = some o) (hP : ∀ y, o = .inl y → V X 0 0 Q 10 [some (vr (xG X) th), some (vr (xG X) a1), some (vi x2), some (vi y.1), some (vi y.2)] [] M) (hE : ∀ z, o = .inr (.inl z) → V X 0 0 Q 36 [none, none, none, some (vi z), none] [] M) (hR : ∀ q, o = .inr (.inr q) → Q = Qn X (some (vi q)) M) : V X 0 0 Q 10 [some (vr (xG X) th), some (vr (xG X) a1), some (vi x2), some (vi x3), some (vi x4)] [] M := by
  unfold s_X6_itemsIn_10 at h
  refine x_iload hX dX6_itemsIn_10 rfl ?_
  refine x_aloadn hX dX6_itemsIn_12 rfl ?_
  refine x_iloadn hX dX6_itemsIn_13 rfl ?_
  obtain ⟨r_3, er_3, h⟩ := cl1_of h
  refine x_callVi (t := 3) (As := [vi x2]) (rest := [vi x4]) hX dX6_itemsIn_14 (c_X3_endOf (gk hX) (gl hX) h1 x2 M _ er_3) kX3_endOf vX3_endOf w_634 h1 rfl rfl rfl rfl (Nat.le_of_ble_eq_true rfl) z0 ?_
  refine x_icmp_ge (tgt := 36) hX dX6_itemsIn_17 (by decide) rfl rfl (fun hc => ?_) (fun hc => ?_)
  · replace h := (if_pos hc).symm.trans h
    refine x_iloadn hX dX6_itemsIn_20 rfl ?_
    refine x_aloadn hX dX6_itemsIn_21 rfl ?_
    refine x_getRj (j := th + 4) hX dX6_itemsIn_22 fl_X6_21 rfl h0 rfl ?_
    refine x_iload hX dX6_itemsIn_25 rfl ?_
    obtain ⟨b_5, h⟩ := gi_of h
    refine x_iald hX dX6_itemsIn_27 (fo_6_5 (gk hX) h0) b_5 rfl ?_
    refine x_iadd hX dX6_itemsIn_28 ?_
    obtain ⟨x3_6, ex3_6, h⟩ := bnd_of h
    refine x_istoren (ls' := [some (vr (xG X) th), some (vr (xG X) a1), some (vi x2), some (vi x3_6), some (vi x4)]) hX dX6_itemsIn_29 rfl ex3_6 rfl ?_
    obtain ⟨x4_7, ex4_7, h⟩ := bnd_of h
    refine x_iinc (ls' := [some (vr (xG X) th), some (vr (xG X) a1), some (vi x2), some (vi x3_6), some (vi x4_7)]) hX dX6_itemsIn_30 rfl rfl ex4_7 rfl ?_
    refine x_goto (tgt := 10) hX dX6_itemsIn_33 (by decide) ?_
    exact x_weak [true, true, true, true, true] rfl (hP (x3_6, x4_7) (Option.some.inj h).symm)
  · replace h := (if_neg hc).symm.trans h
    exact x_weak [false, false, false, true, false] rfl (hE x3 (Option.some.inj h).symm)
noncomputable def f_X6_itemsIn (th : Nat) (a1 : Nat) (x2 : Int) (M : Mem) : Option (Int) :=
  gi x2 3 (bnd (M (a1 + 1) (ix x2)) (fun x4_2 => lpb (wh (fun x => s_X6_itemsIn_10 th a1 x2 M x.1 x.2) (0, x4_2)) (fun z_8 => some z_8) (fun q => some q)))
set_option maxRecDepth 100000 in
set_option maxHeartbeats 4000000 in
theorem c_X6_itemsIn {l : Launch} {G : Gx} (hG : GOK G) (hl : l.stackTraces = false) {th : Nat} (h0 : at_ G th 16 0) {a1 : Nat} (h1 : at_ G a1 13 0) (x2 : Int) (M : Mem) (r : Int) (h : f_X6_itemsIn th a1 x2 M = some r) : Cn l G mX6_itemsIn 2 [vr G th, vr G a1, vi x2] M (some (vi r)) M := by
  refine Cn_of2 (ls := [some (vr G th), some (vr G a1), some (vi x2), none, none]) hG hl kX6_itemsIn rfl (Nat.le_of_ble_eq_true rfl) rfl rfl rfl rfl rfl (fun X eG el hX => ?_)
  subst eG; subst el
  unfold f_X6_itemsIn at h
  refine x_iconst hX dX6_itemsIn_0 ?_
  refine x_istoren (ls' := [some (vr (xG X) th), some (vr (xG X) a1), some (vi x2), some (vi 0), none]) hX dX6_itemsIn_1 rfl rfl rfl ?_
  refine x_aloadn hX dX6_itemsIn_2 rfl ?_
  refine x_getRj (j := a1 + 1) hX dX6_itemsIn_3 fl_X6_97 rfl h1 rfl ?_
  refine x_iloadn hX dX6_itemsIn_6 rfl ?_
  obtain ⟨b_1, h⟩ := gi_of h
  refine x_iald hX dX6_itemsIn_7 (fo_3_4 (gk hX) h1) b_1 rfl ?_
  obtain ⟨x4_2, ex4_2, h⟩ := bnd_of h
  refine x_istore (ls' := [some (vr (xG X) th), some (vr (xG X) a1), some (vi x2), some (vi 0), some (vi x4_2)]) hX dX6_itemsIn_8 rfl ex4_2 rfl ?_
  refine x_weak (ls' := [some (vr (xG X) th), some (vr (xG X) a1), some (vi x2), some (vi 0), some (vi x4_2)]) [true, true, true, true, true] rfl ?_
  refine lp_use (x := (0, x4_2)) (P := fun x => V X 0 0 (Qn X (some (vi r)) M) 10 [some (vr (xG X) th), some (vr (xG X) a1), some (vi x2), some (vi x.1), some (vi x.2)] [] M) (PE := fun z_8 => V X 0 0 (Qn X (some (vi r)) M) 36 [none, none, none, some (vi z_8), none] [] M) (PR := fun q => (Qn X (some (vi r)) M) = Qn X (some (vi q)) M) h (fun x o hh hP hE hR => ts_X6_itemsIn_10 hX h0 h1 x2 M x.1 x.2 o hh hP hE hR) (fun z_8 h => ?_) (fun q h => ?_)
  · show V X 0 0 (Qn X (some (vi r)) M) 36 [none, none, none, some (vi z_8), none] [] M
    refine x_iloadn hX dX6_itemsIn_36 rfl ?_
    cases h
    exact x_iret hX dX6_itemsIn_37 rfl
  · cases h; rfl
theorem dX6_findAisles_0 : decode cX6_findAisles 0 = .ok (.aload_n 0, 1) := by decide +kernel
theorem dX6_findAisles_1 : decode cX6_findAisles 1 = .ok (.iconst 0, 1) := by decide +kernel
theorem dX6_findAisles_2 : decode cX6_findAisles 2 = .ok (.putfield 107, 3) := by decide +kernel
theorem dX6_findAisles_5 : decode cX6_findAisles 5 = .ok (.aload_n 1, 1) := by decide +kernel
theorem dX6_findAisles_6 : decode cX6_findAisles 6 = .ok (.getfield 97, 3) := by decide +kernel
theorem dX6_findAisles_9 : decode cX6_findAisles 9 = .ok (.iload_n 2, 1) := by decide +kernel
theorem dX6_findAisles_10 : decode cX6_findAisles 10 = .ok (.iaload, 1) := by decide +kernel
theorem dX6_findAisles_11 : decode cX6_findAisles 11 = .ok (.istore_n 3, 1) := by decide +kernel
theorem dX6_findAisles_12 : decode cX6_findAisles 12 = .ok (.iload_n 3, 1) := by decide +kernel
theorem dX6_findAisles_13 : decode cX6_findAisles 13 = .ok (.aload_n 1, 1) := by decide +kernel
theorem dX6_findAisles_14 : decode cX6_findAisles 14 = .ok (.iload_n 2, 1) := by decide +kernel
theorem dX6_findAisles_15 : decode cX6_findAisles 15 = .ok (.invokevirtual 100, 3) := by decide +kernel
theorem dX6_findAisles_18 : decode cX6_findAisles 18 = .ok (.if_icmp .ge 38, 3) := by decide +kernel
theorem dX6_findAisles_21 : decode cX6_findAisles 21 = .ok (.aload_n 0, 1) := by decide +kernel
theorem dX6_findAisles_22 : decode cX6_findAisles 22 = .ok (.getfield 9, 3) := by decide +kernel
theorem dX6_findAisles_25 : decode cX6_findAisles 25 = .ok (.iload_n 3, 1) := by decide +kernel
theorem dX6_findAisles_26 : decode cX6_findAisles 26 = .ok (.iaload, 1) := by decide +kernel
theorem dX6_findAisles_27 : decode cX6_findAisles 27 = .ok (.ifCond .eq 23, 3) := by decide +kernel
theorem dX6_findAisles_30 : decode cX6_findAisles 30 = .ok (.aload_n 0, 1) := by decide +kernel
theorem dX6_findAisles_31 : decode cX6_findAisles 31 = .ok (.getfield 24, 3) := by decide +kernel
theorem dX6_findAisles_34 : decode cX6_findAisles 34 = .ok (.aload_n 0, 1) := by decide +kernel
theorem dX6_findAisles_35 : decode cX6_findAisles 35 = .ok (.getfield 107, 3) := by decide +kernel
theorem dX6_findAisles_38 : decode cX6_findAisles 38 = .ok (.iload_n 3, 1) := by decide +kernel
theorem dX6_findAisles_39 : decode cX6_findAisles 39 = .ok (.iastore, 1) := by decide +kernel
theorem dX6_findAisles_40 : decode cX6_findAisles 40 = .ok (.aload_n 0, 1) := by decide +kernel
theorem dX6_findAisles_41 : decode cX6_findAisles 41 = .ok (.dup, 1) := by decide +kernel
theorem dX6_findAisles_42 : decode cX6_findAisles 42 = .ok (.getfield 107, 3) := by decide +kernel
theorem dX6_findAisles_45 : decode cX6_findAisles 45 = .ok (.iconst 1, 1) := by decide +kernel
theorem dX6_findAisles_46 : decode cX6_findAisles 46 = .ok (.iadd, 1) := by decide +kernel
theorem dX6_findAisles_47 : decode cX6_findAisles 47 = .ok (.putfield 107, 3) := by decide +kernel
theorem dX6_findAisles_50 : decode cX6_findAisles 50 = .ok (.iinc 3 1, 3) := by decide +kernel
theorem dX6_findAisles_53 : decode cX6_findAisles 53 = .ok (.goto (-41), 3) := by decide +kernel
theorem dX6_findAisles_56 : decode cX6_findAisles 56 = .ok (.return_, 1) := by decide +kernel
noncomputable def j_X6_findAisles_50_12 (th : Nat) (a1 : Nat)  (x2 : Int) (x3 : Int) (M : Mem) : Option ((Int × Mem) ⊕ ((Mem) ⊕ (Mem))) :=
  bnd (x3 + 1) (fun x3_7 => some (.inl (x3_7, M)))
set_option maxRecDepth 100000 in
set_option maxHeartbeats 4000000 in
theorem tj_X6_findAisles_50_12 {X : Cxt} (hX : Gd X RX6 cX6_findAisles 4 (none) 2) {th : Nat} (h0 : at_ (xG X) th 16 0) {a1 : Nat} (h1 : at_ (xG X) a1 13 0)  (x2 : Int) (x3 : Int) (M : Mem) {Q : State → Prop} (o : (Int × Mem) ⊕ ((Mem) ⊕ (Mem))) (h : j_X6_findAisles_50_12 th a1 x2 x3 M = some o) (hP : ∀ y, o = .inl y → V X 0 0 Q 12 [some (vr (xG X) th), some (vr (xG X) a1), some (vi x2), some (vi y.1)] [] y.2) (hE : ∀ z, o = .inr (.inl z) → V X 0 0 Q 56 [none, none, none, none] [] z) (hR : ∀ q, o = .inr (.inr q) → Q = Qn X none q) : V X 0 0 Q 50 [some (vr (xG X) th), some (vr (xG X) a1), some (vi x2), some (vi x3)] [] M := by
  unfold j_X6_findAisles_50_12 at h
  obtain ⟨x3_7, ex3_7, h⟩ := bnd_of h
  refine x_iinc (ls' := [some (vr (xG X) th), some (vr (xG X) a1), some (vi x2), some (vi x3_7)]) hX dX6_findAisles_50 rfl rfl ex3_7 rfl ?_
  refine x_goto (tgt := 12) hX dX6_findAisles_53 (by decide) ?_
  exact x_weak [true, true, true, true] rfl (hP (x3_7, M) (Option.some.inj h).symm)
noncomputable def s_X6_findAisles_12 (th : Nat) (a1 : Nat) (x2 : Int) (x3 : Int) (M : Mem) : Option ((Int × Mem) ⊕ ((Mem) ⊕ (Mem))) :=
  cl1 (f_X3_endOf a1 x2 M) (fun r_4 => (if w32 x3 < w32 r_4 then gi x3 6 ((if w32 (M (th + 1) (ix x3)) = 0 then j_X6_findAisles_50_12 th a1 x2 x3 M else gi (M th 6) 6 (bnd (upd2 M (th + 5) (ix (M th 6)) x3) (fun M_8 => bnd (upd2 M_8 th 6 ((M_8 th 6) + 1)) (fun M_10 => j_X6_findAisles_50_12 th a1 x2 x3 M_10))))) else some (.inr (.inl M))))
set_option maxRecDepth 100000 in
set_option maxHeartbeats 4000000 in
theorem ts_X6_findAisles_12 {X : Cxt} (hX : Gd X RX6 cX6_findAisles 4 (none) 2) {th : Nat} (h0 : at_ (xG X) th 16 0) {a1 : Nat} (h1 : at_ (xG X) a1 13 0) (x2 : Int) (x3 : Int) (M : Mem) {Q : State → Prop} (o : (Int × Mem) ⊕ ((Mem) ⊕ (Mem))) (h : s_X6_findAisles_12 th a1 x2 x3 M = some o) (hP : ∀ y, o = .inl y → V X 0 0 Q 12 [some (vr (xG X) th), some (vr (xG X) a1), some (vi x2), some (vi y.1)] [] y.2) (hE : ∀ z, o = .inr (.inl z) → V X 0 0 Q 56 [none, none, none, none] [] z) (hR : ∀ q, o = .inr (.inr q) → Q = Qn X none q) : V X 0 0 Q 12 [some (vr (xG X) th), some (vr (xG X) a1), some (vi x2), some (vi x3)] [] M := by
  unfold s_X6_findAisles_12 at h
  refine x_iloadn hX dX6_findAisles_12 rfl ?_
  refine x_aloadn hX dX6_findAisles_13 rfl ?_
  refine x_iloadn hX dX6_findAisles_14 rfl ?_
  obtain ⟨r_4, er_4, h⟩ := cl1_of h
  refine x_callVi (t := 3) (As := [vi x2]) (rest := [vi x3]) hX dX6_findAisles_15 (c_X3_endOf (gk hX) (gl hX) h1 x2 M _ er_4) kX3_endOf vX3_endOf w_634 h1 rfl rfl rfl rfl (Nat.le_of_ble_eq_true rfl) z0 ?_
  refine x_icmp_ge (tgt := 56) hX dX6_findAisles_18 (by decide) rfl rfl (fun hc => ?_) (fun hc => ?_)
  · replace h := (if_pos hc).symm.trans h
    refine x_aloadn hX dX6_findAisles_21 rfl ?_
    refine x_getRj (j := th + 1) hX dX6_findAisles_22 fl_X6_9 rfl h0 rfl ?_
    refine x_iloadn hX dX6_findAisles_25 rfl ?_
    obtain ⟨b_6, h⟩ := gi_of h
    refine x_iald hX dX6_findAisles_26 (fo_6_2 (gk hX) h0) b_6 rfl ?_
    refine x_if_eq (tgt := 50) hX dX6_findAisles_27 (by decide) rfl (fun hc => ?_) (fun hc => ?_)
    · replace h := (if_pos hc).symm.trans h
      exact x_weak [true, true, true, true] rfl (tj_X6_findAisles_50_12 hX h0 h1 x2 x3 M o h hP hE hR)
    · replace h := (if_neg hc).symm.trans h
      refine x_aloadn hX dX6_findAisles_30 rfl ?_
      refine x_getRj (j := th + 5) hX dX6_findAisles_31 fl_X6_24 rfl h0 rfl ?_
      refine x_aloadn hX dX6_findAisles_34 rfl ?_
      refine x_getI hX dX6_findAisles_35 fl_X6_107 rfl h0 ?_
      refine x_iloadn hX dX6_findAisles_38 rfl ?_
      obtain ⟨b_9, h⟩ := gi_of h
      obtain ⟨M_8, eM_8, h⟩ := bnd_of h
      refine x_iast hX dX6_findAisles_39 (fo_6_7 (gk hX) h0) b_9 rfl (x_meq eM_8 ?_)
      refine x_aloadn hX dX6_findAisles_40 rfl ?_
      refine x_dup hX dX6_findAisles_41 rfl ?_
      refine x_getI hX dX6_findAisles_42 fl_X6_107 rfl h0 ?_
      refine x_iconst hX dX6_findAisles_45 ?_
      refine x_iadd hX dX6_findAisles_46 ?_
      obtain ⟨M_10, eM_10, h⟩ := bnd_of h
      refine x_putI hX dX6_findAisles_47 fp_X6_107 rfl h0 (x_meq eM_10 ?_)
      exact x_weak [true, true, true, true] rfl (tj_X6_findAisles_50_12 hX h0 h1 x2 x3 M_10 o h hP hE hR)
  · replace h := (if_neg hc).symm.trans h
    exact x_weak [false, false, false, false] rfl (hE M (Option.some.inj h).symm)
noncomputable def f_X6_findAisles (th : Nat) (a1 : Nat) (x2 : Int) (M : Mem) : Option (Mem) :=
  bnd (upd2 M th 6 0) (fun M_1 => gi x2 3 (bnd (M_1 (a1 + 1) (ix x2)) (fun x3_3 => lpb (wh (fun x => s_X6_findAisles_12 th a1 x2 x.1 x.2) (x3_3, M_1)) (fun z_11 => some z_11) (fun q => some q))))
set_option maxRecDepth 100000 in
set_option maxHeartbeats 4000000 in
theorem c_X6_findAisles {l : Launch} {G : Gx} (hG : GOK G) (hl : l.stackTraces = false) {th : Nat} (h0 : at_ G th 16 0) {a1 : Nat} (h1 : at_ G a1 13 0) (x2 : Int) (M : Mem) (Mr : Mem) (h : f_X6_findAisles th a1 x2 M = some Mr) : Cn l G mX6_findAisles 2 [vr G th, vr G a1, vi x2] M none Mr := by
  refine Cn_of2 (ls := [some (vr G th), some (vr G a1), some (vi x2), none]) hG hl kX6_findAisles rfl (Nat.le_of_ble_eq_true rfl) rfl rfl rfl rfl rfl (fun X eG el hX => ?_)
  subst eG; subst el
  unfold f_X6_findAisles at h
  refine x_aloadn hX dX6_findAisles_0 rfl ?_
  refine x_iconst hX dX6_findAisles_1 ?_
  obtain ⟨M_1, eM_1, h⟩ := bnd_of h
  refine x_putI hX dX6_findAisles_2 fp_X6_107 rfl h0 (x_meq eM_1 ?_)
  refine x_aloadn hX dX6_findAisles_5 rfl ?_
  refine x_getRj (j := a1 + 1) hX dX6_findAisles_6 fl_X6_97 rfl h1 rfl ?_
  refine x_iloadn hX dX6_findAisles_9 rfl ?_
  obtain ⟨b_2, h⟩ := gi_of h
  refine x_iald hX dX6_findAisles_10 (fo_3_4 (gk hX) h1) b_2 rfl ?_
  obtain ⟨x3_3, ex3_3, h⟩ := bnd_of h
  refine x_istoren (ls' := [some (vr (xG X) th), some (vr (xG X) a1), some (vi x2), some (vi x3_3)]) hX dX6_findAisles_11 rfl ex3_3 rfl ?_
  refine x_weak (ls' := [some (vr (xG X) th), some (vr (xG X) a1), some (vi x2), some (vi x3_3)]) [true, true, true, true] rfl ?_
  refine lp_use (x := (x3_3, M_1)) (P := fun x => V X 0 0 (Qn X none Mr) 12 [some (vr (xG X) th), some (vr (xG X) a1), some (vi x2), some (vi x.1)] [] x.2) (PE := fun z_11 => V X 0 0 (Qn X none Mr) 56 [none, none, none, none] [] z_11) (PR := fun q => (Qn X none Mr) = Qn X none q) h (fun x o hh hP hE hR => ts_X6_findAisles_12 hX h0 h1 x2 x.1 x.2 o hh hP hE hR) (fun z_11 h => ?_) (fun q h => ?_)
  · show V X 0 0 (Qn X none Mr) 56 [none, none, none, none] [] z_11
    cases h
    exact x_vret hX dX6_findAisles_56 rfl
  · cases h; rfl
theorem dX6_largestGapCost_0 : decode cX6_largestGapCost 0 = .ok (.aload_n 0, 1) := by decide +kernel
theorem dX6_largestGapCost_1 : decode cX6_largestGapCost 1 = .ok (.getfield 107, 3) := by decide +kernel
theorem dX6_largestGapCost_4 : decode cX6_largestGapCost 4 = .ok (.iconst 2, 1) := by decide +kernel
theorem dX6_largestGapCost_5 : decode cX6_largestGapCost 5 = .ok (.if_icmp .ge 8, 3) := by decide +kernel
theorem dX6_largestGapCost_8 : decode cX6_largestGapCost 8 = .ok (.aload_n 0, 1) := by decide +kernel
theorem dX6_largestGapCost_9 : decode cX6_largestGapCost 9 = .ok (.invokevirtual 123, 3) := by decide +kernel
theorem dX6_largestGapCost_12 : decode cX6_largestGapCost 12 = .ok (.ireturn, 1) := by decide +kernel
theorem dX6_largestGapCost_13 : decode cX6_largestGapCost 13 = .ok (.iconst 2, 1) := by decide +kernel
theorem dX6_largestGapCost_14 : decode cX6_largestGapCost 14 = .ok (.aload_n 0, 1) := by decide +kernel
theorem dX6_largestGapCost_15 : decode cX6_largestGapCost 15 = .ok (.getfield 55, 3) := by decide +kernel
theorem dX6_largestGapCost_18 : decode cX6_largestGapCost 18 = .ok (.imul, 1) := by decide +kernel
theorem dX6_largestGapCost_19 : decode cX6_largestGapCost 19 = .ok (.istore_n 1, 1) := by decide +kernel
theorem dX6_largestGapCost_20 : decode cX6_largestGapCost 20 = .ok (.iconst 1, 1) := by decide +kernel
theorem dX6_largestGapCost_21 : decode cX6_largestGapCost 21 = .ok (.istore_n 2, 1) := by decide +kernel
theorem dX6_largestGapCost_22 : decode cX6_largestGapCost 22 = .ok (.iload_n 2, 1) := by decide +kernel
theorem dX6_largestGapCost_23 : decode cX6_largestGapCost 23 = .ok (.aload_n 0, 1) := by decide +kernel
theorem dX6_largestGapCost_24 : decode cX6_largestGapCost 24 = .ok (.getfield 107, 3) := by decide +kernel
theorem dX6_largestGapCost_27 : decode cX6_largestGapCost 27 = .ok (.iconst 1, 1) := by decide +kernel
theorem dX6_largestGapCost_28 : decode cX6_largestGapCost 28 = .ok (.isub, 1) := by decide +kernel
theorem dX6_largestGapCost_29 : decode cX6_largestGapCost 29 = .ok (.if_icmp .ge 33, 3) := by decide +kernel
theorem dX6_largestGapCost_32 : decode cX6_largestGapCost 32 = .ok (.aload_n 0, 1) := by decide +kernel
theorem dX6_largestGapCost_33 : decode cX6_largestGapCost 33 = .ok (.aload_n 0, 1) := by decide +kernel
theorem dX6_largestGapCost_34 : decode cX6_largestGapCost 34 = .ok (.getfield 24, 3) := by decide +kernel
theorem dX6_largestGapCost_37 : decode cX6_largestGapCost 37 = .ok (.iload_n 2, 1) := by decide +kernel
theorem dX6_largestGapCost_38 : decode cX6_largestGapCost 38 = .ok (.iaload, 1) := by decide +kernel
theorem dX6_largestGapCost_39 : decode cX6_largestGapCost 39 = .ok (.invokevirtual 126, 3) := by decide +kernel
theorem dX6_largestGapCost_42 : decode cX6_largestGapCost 42 = .ok (.iload_n 1, 1) := by decide +kernel
theorem dX6_largestGapCost_43 : decode cX6_largestGapCost 43 = .ok (.iconst 2, 1) := by decide +kernel
theorem dX6_largestGapCost_44 : decode cX6_largestGapCost 44 = .ok (.aload_n 0, 1) := by decide +kernel
theorem dX6_largestGapCost_45 : decode cX6_largestGapCost 45 = .ok (.getfield 55, 3) := by decide +kernel
theorem dX6_largestGapCost_48 : decode cX6_largestGapCost 48 = .ok (.aload_n 0, 1) := by decide +kernel
theorem dX6_largestGapCost_49 : decode cX6_largestGapCost 49 = .ok (.getfield 130, 3) := by decide +kernel
theorem dX6_largestGapCost_52 : decode cX6_largestGapCost 52 = .ok (.isub, 1) := by decide +kernel
theorem dX6_largestGapCost_53 : decode cX6_largestGapCost 53 = .ok (.imul, 1) := by decide +kernel
theorem dX6_largestGapCost_54 : decode cX6_largestGapCost 54 = .ok (.iadd, 1) := by decide +kernel
theorem dX6_largestGapCost_55 : decode cX6_largestGapCost 55 = .ok (.istore_n 1, 1) := by decide +kernel
theorem dX6_largestGapCost_56 : decode cX6_largestGapCost 56 = .ok (.iinc 2 1, 3) := by decide +kernel
theorem dX6_largestGapCost_59 : decode cX6_largestGapCost 59 = .ok (.goto (-37), 3) := by decide +kernel
theorem dX6_largestGapCost_62 : decode cX6_largestGapCost 62 = .ok (.iload_n 1, 1) := by decide +kernel
theorem dX6_largestGapCost_63 : decode cX6_largestGapCost 63 = .ok (.ireturn, 1) := by decide +kernel
noncomputable def s_X6_largestGapCost_22 (th : Nat) (x1 : Int) (x2 : Int) (M : Mem) : Option ((Int × Int × Mem) ⊕ ((Int × Mem) ⊕ (Int × Mem))) :=
  (if w32 x2 < w32 ((M th 6) - 1) then gi x2 6 (cl1 (f_X6_findLargestGap th (M (th + 5) (ix x2)) M) (fun M_6 => bnd (x1 + (2 * ((M_6 th 1) - (M_6 th 9)))) (fun x1_7 => bnd (x2 + 1) (fun x2_8 => some (.inl (x1_7, x2_8, M_6)))))) else some (.inr (.inl (x1, M))))
set_option maxRecDepth 100000 in
set_option maxHeartbeats 4000000 in
theorem ts_X6_largestGapCost_22 {X : Cxt} (hX : Gd X RX6 cX6_largestGapCost 3 (some .int) 2) {th : Nat} (h0 : at_ (xG X) th 16 0) (x1 : Int) (x2 : Int) (M : Mem) {Q : State → Prop} (o : (Int × Int × Mem) ⊕ ((Int × Mem) ⊕ (Int × Mem))) (h : s_X6_largestGapCost_22 th x1 x2 M = some o) (hP : ∀ y, o = .inl y → V X 0 0 Q 22 [some (vr (xG X) th), some (vi y.1), some (vi y.2.1)] [] y.2.2) (hE : ∀ z, o = .inr (.inl z) → V X 0 0 Q 62 [none, some (vi z.1), none] [] z.2) (hR : ∀ q, o = .inr (.inr q) → Q = Qn X (some (vi q.1)) q.2) : V X 0 0 Q 22 [some (vr (xG X) th), some (vi x1), some (vi x2)] [] M := by
  unfold s_X6_largestGapCost_22 at h
  refine x_iloadn hX dX6_largestGapCost_22 rfl ?_
  refine x_aloadn hX dX6_largestGapCost_23 rfl ?_
  refine x_getI hX dX6_largestGapCost_24 fl_X6_107 rfl h0 ?_
  refine x_iconst hX dX6_largestGapCost_27 ?_
  refine x_isub hX dX6_largestGapCost_28 ?_
  refine x_icmp_ge (tgt := 62) hX dX6_largestGapCost_29 (by decide) rfl rfl (fun hc => ?_) (fun hc => ?_)
  · replace h := (if_pos hc).symm.trans h
    refine x_aloadn hX dX6_largestGapCost_32 rfl ?_
    refine x_aloadn hX dX6_largestGapCost_33 rfl ?_
    refine x_getRj (j := th + 5) hX dX6_largestGapCost_34 fl_X6_24 rfl h0 rfl ?_
    refine x_iloadn hX dX6_largestGapCost_37 rfl ?_
    obtain ⟨b_4, h⟩ := gi_of h
    refine x_iald hX dX6_largestGapCost_38 (fo_6_7 (gk hX) h0) b_4 rfl ?_
    obtain ⟨M_6, er_5, h⟩ := cl1_of h
    refine x_callVv (t := 6) (As := [vi (M (th + 5) (ix x2))]) (rest := []) hX dX6_largestGapCost_39 (c_X6_findLargestGap (gk hX) (gl hX) h0 (M (th + 5) (ix x2)) M _ er_5) kX6_findLargestGap vX6_findLargestGap w_650 h0 rfl rfl rfl rfl (Nat.le_of_ble_eq_true rfl) z0 ?_
    refine x_iloadn hX dX6_largestGapCost_42 rfl ?_
    refine x_iconst hX dX6_largestGapCost_43 ?_
    refine x_aloadn hX dX6_largestGapCost_44 rfl ?_
    refine x_getI hX dX6_largestGapCost_45 fl_X6_55 rfl h0 ?_
    refine x_aloadn hX dX6_largestGapCost_48 rfl ?_
    refine x_getI hX dX6_largestGapCost_49 fl_X6_130 rfl h0 ?_
    refine x_isub hX dX6_largestGapCost_52 ?_
    refine x_imul hX dX6_largestGapCost_53 ?_
    refine x_iadd hX dX6_largestGapCost_54 ?_
    obtain ⟨x1_7, ex1_7, h⟩ := bnd_of h
    refine x_istoren (ls' := [some (vr (xG X) th), some (vi x1_7), some (vi x2)]) hX dX6_largestGapCost_55 rfl ex1_7 rfl ?_
    obtain ⟨x2_8, ex2_8, h⟩ := bnd_of h
    refine x_iinc (ls' := [some (vr (xG X) th), some (vi x1_7), some (vi x2_8)]) hX dX6_largestGapCost_56 rfl rfl ex2_8 rfl ?_
    refine x_goto (tgt := 22) hX dX6_largestGapCost_59 (by decide) ?_
    exact x_weak [true, true, true] rfl (hP (x1_7, x2_8, M_6) (Option.some.inj h).symm)
  · replace h := (if_neg hc).symm.trans h
    exact x_weak [false, true, false] rfl (hE (x1, M) (Option.some.inj h).symm)
noncomputable def f_X6_largestGapCost (th : Nat) (M : Mem) : Option (Int × Mem) :=
  (if w32 (M th 6) < 2 then cl1 (f_X6_returnCost th M) (fun r_1 => some (r_1, M)) else bnd (2 * (M th 1)) (fun x1_3 => lpb (wh (fun x => s_X6_largestGapCost_22 th x.1 x.2.1 x.2.2) (x1_3, 1, M)) (fun z_9 => some (z_9.1, z_9.2)) (fun q => some q)))
set_option maxRecDepth 100000 in
set_option maxHeartbeats 4000000 in
theorem c_X6_largestGapCost {l : Launch} {G : Gx} (hG : GOK G) (hl : l.stackTraces = false) {th : Nat} (h0 : at_ G th 16 0) (M : Mem) (r : Int) (Mr : Mem) (h : f_X6_largestGapCost th M = some (r, Mr)) : Cn l G mX6_largestGapCost 2 [vr G th] M (some (vi r)) Mr := by
  refine Cn_of2 (ls := [some (vr G th), none, none]) hG hl kX6_largestGapCost rfl (Nat.le_of_ble_eq_true rfl) rfl rfl rfl rfl rfl (fun X eG el hX => ?_)
  subst eG; subst el
  unfold f_X6_largestGapCost at h
  refine x_aloadn hX dX6_largestGapCost_0 rfl ?_
  refine x_getI hX dX6_largestGapCost_1 fl_X6_107 rfl h0 ?_
  refine x_iconst hX dX6_largestGapCost_4 ?_
  refine x_icmp_ge (tgt := 13) hX dX6_largestGapCost_5 (by decide) rfl cw_2 (fun hc => ?_) (fun hc => ?_)
  · replace h := (if_pos hc).symm.trans h
    refine x_aloadn hX dX6_largestGapCost_8 rfl ?_
    obtain ⟨r_1, er_1, h⟩ := cl1_of h
    refine x_callVi (t := 6) (As := []) (rest := []) hX dX6_largestGapCost_9 (c_X6_returnCost (gk hX) (gl hX) h0 M _ er_1) kX6_returnCost vX6_returnCost w_646 h0 rfl rfl rfl rfl (Nat.le_of_ble_eq_true rfl) z0 ?_
    cases h
    exact x_iret hX dX6_largestGapCost_12 rfl
  · replace h := (if_neg hc).symm.trans h
    refine x_iconst hX dX6_largestGapCost_13 ?_
    refine x_aloadn hX dX6_largestGapCost_14 rfl ?_
    refine x_getI hX dX6_largestGapCost_15 fl_X6_55 rfl h0 ?_
    refine x_imul hX dX6_largestGapCost_18 ?_
    obtain ⟨x1_3, ex1_3, h⟩ := bnd_of h
    refine x_istoren (ls' := [some (vr (xG X) th), some (vi x1_3), none]) hX dX6_largestGapCost_19 rfl ex1_3 rfl ?_
    refine x_iconst hX dX6_largestGapCost_20 ?_
    refine x_istoren (ls' := [some (vr (xG X) th), some (vi x1_3), some (vi 1)]) hX dX6_largestGapCost_21 rfl rfl rfl ?_
    refine x_weak (ls' := [some (vr (xG X) th), some (vi x1_3), some (vi 1)]) [true, true, true] rfl ?_
    refine lp_use (x := (x1_3, 1, M)) (P := fun x => V X 0 0 (Qn X (some (vi r)) Mr) 22 [some (vr (xG X) th), some (vi x.1), some (vi x.2.1)] [] x.2.2) (PE := fun z_9 => V X 0 0 (Qn X (some (vi r)) Mr) 62 [none, some (vi z_9.1), none] [] z_9.2) (PR := fun q => (Qn X (some (vi r)) Mr) = Qn X (some (vi q.1)) q.2) h (fun x o hh hP hE hR => ts_X6_largestGapCost_22 hX h0 x.1 x.2.1 x.2.2 o hh hP hE hR) (fun z_9 h => ?_) (fun q h => ?_)
    · show V X 0 0 (Qn X (some (vi r)) Mr) 62 [none, some (vi z_9.1), none] [] z_9.2
      refine x_iloadn hX dX6_largestGapCost_62 rfl ?_
      cases h
      exact x_iret hX dX6_largestGapCost_63 rfl
    · cases h; rfl
theorem dX6_planCombined_0 : decode cX6_planCombined 0 = .ok (.aload_n 0, 1) := by decide +kernel
theorem dX6_planCombined_1 : decode cX6_planCombined 1 = .ok (.getfield 27, 3) := by decide +kernel
theorem dX6_planCombined_4 : decode cX6_planCombined 4 = .ok (.aload_n 0, 1) := by decide +kernel
theorem dX6_planCombined_5 : decode cX6_planCombined 5 = .ok (.getfield 107, 3) := by decide +kernel
theorem dX6_planCombined_8 : decode cX6_planCombined 8 = .ok (.iconst 0, 1) := by decide +kernel
theorem dX6_planCombined_9 : decode cX6_planCombined 9 = .ok (.iastore, 1) := by decide +kernel
theorem dX6_planCombined_10 : decode cX6_planCombined 10 = .ok (.aload_n 0, 1) := by decide +kernel
theorem dX6_planCombined_11 : decode cX6_planCombined 11 = .ok (.getfield 30, 3) := by decide +kernel
theorem dX6_planCombined_14 : decode cX6_planCombined 14 = .ok (.aload_n 0, 1) := by decide +kernel
theorem dX6_planCombined_15 : decode cX6_planCombined 15 = .ok (.getfield 107, 3) := by decide +kernel
theorem dX6_planCombined_18 : decode cX6_planCombined 18 = .ok (.ldc 136, 2) := by decide +kernel
theorem dX6_planCombined_20 : decode cX6_planCombined 20 = .ok (.iastore, 1) := by decide +kernel
theorem dX6_planCombined_21 : decode cX6_planCombined 21 = .ok (.aload_n 0, 1) := by decide +kernel
theorem dX6_planCombined_22 : decode cX6_planCombined 22 = .ok (.getfield 107, 3) := by decide +kernel
theorem dX6_planCombined_25 : decode cX6_planCombined 25 = .ok (.iconst 1, 1) := by decide +kernel
theorem dX6_planCombined_26 : decode cX6_planCombined 26 = .ok (.isub, 1) := by decide +kernel
theorem dX6_planCombined_27 : decode cX6_planCombined 27 = .ok (.istore_n 1, 1) := by decide +kernel
theorem dX6_planCombined_28 : decode cX6_planCombined 28 = .ok (.iload_n 1, 1) := by decide +kernel
theorem dX6_planCombined_29 : decode cX6_planCombined 29 = .ok (.ifCond .lt 51, 3) := by decide +kernel
theorem dX6_planCombined_32 : decode cX6_planCombined 32 = .ok (.aload_n 0, 1) := by decide +kernel
theorem dX6_planCombined_33 : decode cX6_planCombined 33 = .ok (.getfield 27, 3) := by decide +kernel
theorem dX6_planCombined_36 : decode cX6_planCombined 36 = .ok (.iload_n 1, 1) := by decide +kernel
theorem dX6_planCombined_37 : decode cX6_planCombined 37 = .ok (.aload_n 0, 1) := by decide +kernel
theorem dX6_planCombined_38 : decode cX6_planCombined 38 = .ok (.iload_n 1, 1) := by decide +kernel
theorem dX6_planCombined_39 : decode cX6_planCombined 39 = .ok (.iconst 0, 1) := by decide +kernel
theorem dX6_planCombined_40 : decode cX6_planCombined 40 = .ok (.invokevirtual 137, 3) := by decide +kernel
theorem dX6_planCombined_43 : decode cX6_planCombined 43 = .ok (.aload_n 0, 1) := by decide +kernel
theorem dX6_planCombined_44 : decode cX6_planCombined 44 = .ok (.iload_n 1, 1) := by decide +kernel
theorem dX6_planCombined_45 : decode cX6_planCombined 45 = .ok (.iconst 0, 1) := by decide +kernel
theorem dX6_planCombined_46 : decode cX6_planCombined 46 = .ok (.invokevirtual 140, 3) := by decide +kernel
theorem dX6_planCombined_49 : decode cX6_planCombined 49 = .ok (.invokestatic 77, 3) := by decide +kernel
theorem dX6_planCombined_52 : decode cX6_planCombined 52 = .ok (.iastore, 1) := by decide +kernel
theorem dX6_planCombined_53 : decode cX6_planCombined 53 = .ok (.aload_n 0, 1) := by decide +kernel
theorem dX6_planCombined_54 : decode cX6_planCombined 54 = .ok (.getfield 30, 3) := by decide +kernel
theorem dX6_planCombined_57 : decode cX6_planCombined 57 = .ok (.iload_n 1, 1) := by decide +kernel
theorem dX6_planCombined_58 : decode cX6_planCombined 58 = .ok (.aload_n 0, 1) := by decide +kernel
theorem dX6_planCombined_59 : decode cX6_planCombined 59 = .ok (.iload_n 1, 1) := by decide +kernel
theorem dX6_planCombined_60 : decode cX6_planCombined 60 = .ok (.iconst 1, 1) := by decide +kernel
theorem dX6_planCombined_61 : decode cX6_planCombined 61 = .ok (.invokevirtual 137, 3) := by decide +kernel
theorem dX6_planCombined_64 : decode cX6_planCombined 64 = .ok (.aload_n 0, 1) := by decide +kernel
theorem dX6_planCombined_65 : decode cX6_planCombined 65 = .ok (.iload_n 1, 1) := by decide +kernel
theorem dX6_planCombined_66 : decode cX6_planCombined 66 = .ok (.iconst 1, 1) := by decide +kernel
theorem dX6_planCombined_67 : decode cX6_planCombined 67 = .ok (.invokevirtual 140, 3) := by decide +kernel
theorem dX6_planCombined_70 : decode cX6_planCombined 70 = .ok (.invokestatic 77, 3) := by decide +kernel
theorem dX6_planCombined_73 : decode cX6_planCombined 73 = .ok (.iastore, 1) := by decide +kernel
theorem dX6_planCombined_74 : decode cX6_planCombined 74 = .ok (.iinc 1 (-1), 3) := by decide +kernel
theorem dX6_planCombined_77 : decode cX6_planCombined 77 = .ok (.goto (-49), 3) := by decide +kernel
theorem dX6_planCombined_80 : decode cX6_planCombined 80 = .ok (.return_, 1) := by decide +kernel
noncomputable def s_X6_planCombined_28 (th : Nat) (x1 : Int) (M : Mem) : Option ((Int × Mem) ⊕ ((Mem) ⊕ (Mem))) :=
  (if w32 x1 < 0 then some (.inr (.inl M)) else cl1 (f_X6_stayingCost th x1 0 M) (fun r_6 => cl1 (f_X6_crossingCost th x1 0 M) (fun r_8 => gi x1 7 (bnd (upd2 M (th + 6) (ix x1) (i_min r_6 r_8)) (fun M_10 => cl1 (f_X6_stayingCost th x1 1 M_10) (fun r_12 => cl1 (f_X6_crossingCost th x1 1 M_10) (fun r_14 => gi x1 7 (bnd (upd2 M_10 (th + 7) (ix x1) (i_min r_12 r_14)) (fun M_16 => bnd (x1 + (-1)) (fun x1_18 => some (.inl (x1_18, M_16))))))))))))
set_option maxRecDepth 100000 in
set_option maxHeartbeats 4000000 in
theorem ts_X6_planCombined_28 {X : Cxt} (hX : Gd X RX6 cX6_planCombined 2 (none) 2) {th : Nat} (h0 : at_ (xG X) th 16 0) (x1 : Int) (M : Mem) {Q : State → Prop} (o : (Int × Mem) ⊕ ((Mem) ⊕ (Mem))) (h : s_X6_planCombined_28 th x1 M = some o) (hP : ∀ y, o = .inl y → V X 0 0 Q 28 [some (vr (xG X) th), some (vi y.1)] [] y.2) (hE : ∀ z, o = .inr (.inl z) → V X 0 0 Q 80 [none, none] [] z) (hR : ∀ q, o = .inr (.inr q) → Q = Qn X none q) : V X 0 0 Q 28 [some (vr (xG X) th), some (vi x1)] [] M := by
  unfold s_X6_planCombined_28 at h
  refine x_iloadn hX dX6_planCombined_28 rfl ?_
  refine x_if_lt (tgt := 80) hX dX6_planCombined_29 (by decide) rfl (fun hc => ?_) (fun hc => ?_)
  · replace h := (if_pos hc).symm.trans h
    exact x_weak [false, false] rfl (hE M (Option.some.inj h).symm)
  · replace h := (if_neg hc).symm.trans h
    refine x_aloadn hX dX6_planCombined_32 rfl ?_
    refine x_getRj (j := th + 6) hX dX6_planCombined_33 fl_X6_27 rfl h0 rfl ?_
    refine x_iloadn hX dX6_planCombined_36 rfl ?_
    refine x_aloadn hX dX6_planCombined_37 rfl ?_
    refine x_iloadn hX dX6_planCombined_38 rfl ?_
    refine x_iconst hX dX6_planCombined_39 ?_
    obtain ⟨r_6, er_6, h⟩ := cl1_of h
    refine x_callVi (t := 6) (As := [vi x1, vi 0]) (rest := [vi x1, vr (xG X) (th + 6)]) hX dX6_planCombined_40 (c_X6_stayingCost (gk hX) (gl hX) h0 x1 0 M _ er_6) kX6_stayingCost vX6_stayingCost w_659 h0 rfl rfl rfl rfl (Nat.le_of_ble_eq_true rfl) z0 ?_
    refine x_aloadn hX dX6_planCombined_43 rfl ?_
    refine x_iloadn hX dX6_planCombined_44 rfl ?_
    refine x_iconst hX dX6_planCombined_45 ?_
    obtain ⟨r_8, er_8, h⟩ := cl1_of h
    refine x_callVi (t := 6) (As := [vi x1, vi 0]) (rest := [vi r_6, vi x1, vr (xG X) (th + 6)]) hX dX6_planCombined_46 (c_X6_crossingCost (gk hX) (gl hX) h0 x1 0 M _ er_8) kX6_crossingCost vX6_crossingCost w_663 h0 rfl rfl rfl rfl (Nat.le_of_ble_eq_true rfl) z0 ?_
    refine x_min (st := [vi x1, vr (xG X) (th + 6)]) hX dX6_planCombined_49 minw_X6_77 (Nat.le_of_ble_eq_true rfl) z0 ?_
    obtain ⟨b_11, h⟩ := gi_of h
    obtain ⟨M_10, eM_10, h⟩ := bnd_of h
    refine x_iast hX dX6_planCombined_52 (fo_6_10 (gk hX) h0) b_11 rfl (x_meq eM_10 ?_)
    refine x_aloadn hX dX6_planCombined_53 rfl ?_
    refine x_getRj (j := th + 7) hX dX6_planCombined_54 fl_X6_30 rfl h0 rfl ?_
    refine x_iloadn hX dX6_planCombined_57 rfl ?_
    refine x_aloadn hX dX6_planCombined_58 rfl ?_
    refine x_iloadn hX dX6_planCombined_59 rfl ?_
    refine x_iconst hX dX6_planCombined_60 ?_
    obtain ⟨r_12, er_12, h⟩ := cl1_of h
    refine x_callVi (t := 6) (As := [vi x1, vi 1]) (rest := [vi x1, vr (xG X) (th + 7)]) hX dX6_planCombined_61 (c_X6_stayingCost (gk hX) (gl hX) h0 x1 1 M_10 _ er_12) kX6_stayingCost vX6_stayingCost w_659 h0 rfl rfl rfl rfl (Nat.le_of_ble_eq_true rfl) z0 ?_
    refine x_aloadn hX dX6_planCombined_64 rfl ?_
    refine x_iloadn hX dX6_planCombined_65 rfl ?_
    refine x_iconst hX dX6_planCombined_66 ?_
    obtain ⟨r_14, er_14, h⟩ := cl1_of h
    refine x_callVi (t := 6) (As := [vi x1, vi 1]) (rest := [vi r_12, vi x1, vr (xG X) (th + 7)]) hX dX6_planCombined_67 (c_X6_crossingCost (gk hX) (gl hX) h0 x1 1 M_10 _ er_14) kX6_crossingCost vX6_crossingCost w_663 h0 rfl rfl rfl rfl (Nat.le_of_ble_eq_true rfl) z0 ?_
    refine x_min (st := [vi x1, vr (xG X) (th + 7)]) hX dX6_planCombined_70 minw_X6_77 (Nat.le_of_ble_eq_true rfl) z0 ?_
    obtain ⟨b_17, h⟩ := gi_of h
    obtain ⟨M_16, eM_16, h⟩ := bnd_of h
    refine x_iast hX dX6_planCombined_73 (fo_6_11 (gk hX) h0) b_17 rfl (x_meq eM_16 ?_)
    obtain ⟨x1_18, ex1_18, h⟩ := bnd_of h
    refine x_iinc (ls' := [some (vr (xG X) th), some (vi x1_18)]) hX dX6_planCombined_74 rfl rfl ex1_18 rfl ?_
    refine x_goto (tgt := 28) hX dX6_planCombined_77 (by decide) ?_
    exact x_weak [true, true] rfl (hP (x1_18, M_16) (Option.some.inj h).symm)
noncomputable def f_X6_planCombined (th : Nat) (M : Mem) : Option (Mem) :=
  gi (M th 6) 7 (bnd (upd2 M (th + 6) (ix (M th 6)) 0) (fun M_1 => gi (M_1 th 6) 7 (bnd (upd2 M_1 (th + 7) (ix (M_1 th 6)) 1000000) (fun M_3 => bnd ((M_3 th 6) - 1) (fun x1_5 => lpb (wh (fun x => s_X6_planCombined_28 th x.1 x.2) (x1_5, M_3)) (fun z_19 => some z_19) (fun q => some q))))))
set_option maxRecDepth 100000 in
set_option maxHeartbeats 4000000 in
theorem c_X6_planCombined {l : Launch} {G : Gx} (hG : GOK G) (hl : l.stackTraces = false) {th : Nat} (h0 : at_ G th 16 0) (M : Mem) (Mr : Mem) (h : f_X6_planCombined th M = some Mr) : Cn l G mX6_planCombined 2 [vr G th] M none Mr := by
  refine Cn_of2 (ls := [some (vr G th), none]) hG hl kX6_planCombined rfl (Nat.le_of_ble_eq_true rfl) rfl rfl rfl rfl rfl (fun X eG el hX => ?_)
  subst eG; subst el
  unfold f_X6_planCombined at h
  refine x_aloadn hX dX6_planCombined_0 rfl ?_
  refine x_getRj (j := th + 6) hX dX6_planCombined_1 fl_X6_27 rfl h0 rfl ?_
  refine x_aloadn hX dX6_planCombined_4 rfl ?_
  refine x_getI hX dX6_planCombined_5 fl_X6_107 rfl h0 ?_
  refine x_iconst hX dX6_planCombined_8 ?_
  obtain ⟨b_2, h⟩ := gi_of h
  obtain ⟨M_1, eM_1, h⟩ := bnd_of h
  refine x_iast hX dX6_planCombined_9 (fo_6_10 (gk hX) h0) b_2 rfl (x_meq eM_1 ?_)
  refine x_aloadn hX dX6_planCombined_10 rfl ?_
  refine x_getRj (j := th + 7) hX dX6_planCombined_11 fl_X6_30 rfl h0 rfl ?_
  refine x_aloadn hX dX6_planCombined_14 rfl ?_
  refine x_getI hX dX6_planCombined_15 fl_X6_107 rfl h0 ?_
  refine x_ldc hX dX6_planCombined_18 w_658 ?_
  obtain ⟨b_4, h⟩ := gi_of h
  obtain ⟨M_3, eM_3, h⟩ := bnd_of h
  refine x_iast hX dX6_planCombined_20 (fo_6_11 (gk hX) h0) b_4 rfl (x_meq eM_3 ?_)
  refine x_aloadn hX dX6_planCombined_21 rfl ?_
  refine x_getI hX dX6_planCombined_22 fl_X6_107 rfl h0 ?_
  refine x_iconst hX dX6_planCombined_25 ?_
  refine x_isub hX dX6_planCombined_26 ?_
  obtain ⟨x1_5, ex1_5, h⟩ := bnd_of h
  refine x_istoren (ls' := [some (vr (xG X) th), some (vi x1_5)]) hX dX6_planCombined_27 rfl ex1_5 rfl ?_
  refine x_weak (ls' := [some (vr (xG X) th), some (vi x1_5)]) [true, true] rfl ?_
  refine lp_use (x := (x1_5, M_3)) (P := fun x => V X 0 0 (Qn X none Mr) 28 [some (vr (xG X) th), some (vi x.1)] [] x.2) (PE := fun z_19 => V X 0 0 (Qn X none Mr) 80 [none, none] [] z_19) (PR := fun q => (Qn X none Mr) = Qn X none q) h (fun x o hh hP hE hR => ts_X6_planCombined_28 hX h0 x.1 x.2 o hh hP hE hR) (fun z_19 h => ?_) (fun q h => ?_)
  · show V X 0 0 (Qn X none Mr) 80 [none, none] [] z_19
    cases h
    exact x_vret hX dX6_planCombined_80 rfl
  · cases h; rfl
theorem dX6_visitUp_0 : decode cX6_visitUp 0 = .ok (.iconst 1, 1) := by decide +kernel
theorem dX6_visitUp_1 : decode cX6_visitUp 1 = .ok (.istore 4, 2) := by decide +kernel
theorem dX6_visitUp_3 : decode cX6_visitUp 3 = .ok (.iload 4, 2) := by decide +kernel
theorem dX6_visitUp_5 : decode cX6_visitUp 5 = .ok (.iload_n 3, 1) := by decide +kernel
theorem dX6_visitUp_6 : decode cX6_visitUp 6 = .ok (.if_icmp .gt 17, 3) := by decide +kernel
theorem dX6_visitUp_9 : decode cX6_visitUp 9 = .ok (.aload_n 0, 1) := by decide +kernel
theorem dX6_visitUp_10 : decode cX6_visitUp 10 = .ok (.aload_n 1, 1) := by decide +kernel
theorem dX6_visitUp_11 : decode cX6_visitUp 11 = .ok (.iload_n 2, 1) := by decide +kernel
theorem dX6_visitUp_12 : decode cX6_visitUp 12 = .ok (.iload 4, 2) := by decide +kernel
theorem dX6_visitUp_14 : decode cX6_visitUp 14 = .ok (.invokevirtual 172, 3) := by decide +kernel
theorem dX6_visitUp_17 : decode cX6_visitUp 17 = .ok (.iinc 4 1, 3) := by decide +kernel
theorem dX6_visitUp_20 : decode cX6_visitUp 20 = .ok (.goto (-17), 3) := by decide +kernel
theorem dX6_visitUp_23 : decode cX6_visitUp 23 = .ok (.return_, 1) := by decide +kernel
noncomputable def s_X6_visitUp_3 (th : Nat) (a1 : Nat) (x2 : Int) (x3 : Int) (x4 : Int) (M : Mem) : Option ((Int × Mem) ⊕ ((Mem) ⊕ (Mem))) :=
  (if w32 x3 < w32 x4 then some (.inr (.inl M)) else cl1 (f_X6_visitPlace th a1 x2 x4 M) (fun M_2 => bnd (x4 + 1) (fun x4_3 => some (.inl (x4_3, M_2)))))
set_option maxRecDepth 100000 in
set_option maxHeartbeats 4000000 in
theorem ts_X6_visitUp_3 {X : Cxt} (hX : Gd X RX6 cX6_visitUp 5 (none) 2) {th : Nat} (h0 : at_ (xG X) th 16 0) {a1 : Nat} (h1 : at_ (xG X) a1 11 0) (x2 : Int) (x3 : Int) (x4 : Int) (M : Mem) {Q : State → Prop} (o : (Int × Mem) ⊕ ((Mem) ⊕ (Mem))) (h : s_X6_visitUp_3 th a1 x2 x3 x4 M = some o) (hP : ∀ y, o = .inl y → V X 0 0 Q 3 [some (vr (xG X) th), some (vr (xG X) a1), some (vi x2), some (vi x3), some (vi y.1)] [] y.2) (hE : ∀ z, o = .inr (.inl z) → V X 0 0 Q 23 [none, none, none, none, none] [] z) (hR : ∀ q, o = .inr (.inr q) → Q = Qn X none q) : V X 0 0 Q 3 [some (vr (xG X) th), some (vr (xG X) a1), some (vi x2), some (vi x3), some (vi x4)] [] M := by
  unfold s_X6_visitUp_3 at h
  refine x_iload hX dX6_visitUp_3 rfl ?_
  refine x_iloadn hX dX6_visitUp_5 rfl ?_
  refine x_icmp_gt (tgt := 23) hX dX6_visitUp_6 (by decide) rfl rfl (fun hc => ?_) (fun hc => ?_)
  · replace h := (if_pos hc).symm.trans h
    exact x_weak [false, false, false, false, false] rfl (hE M (Option.some.inj h).symm)
  · replace h := (if_neg hc).symm.trans h
    refine x_aloadn hX dX6_visitUp_9 rfl ?_
    refine x_aloadn hX dX6_visitUp_10 rfl ?_
    refine x_iloadn hX dX6_visitUp_11 rfl ?_
    refine x_iload hX dX6_visitUp_12 rfl ?_
    obtain ⟨M_2, er_1, h⟩ := cl1_of h
    refine x_callVv (t := 6) (As := [vr (xG X) a1, vi x2, vi x4]) (rest := []) hX dX6_visitUp_14 (c_X6_visitPlace (gk hX) (gl hX) h0 h1 x2 x4 M _ er_1) kX6_visitPlace vX6_visitPlace w_1475 h0 rfl rfl rfl rfl (Nat.le_of_ble_eq_true rfl) z0 ?_
    obtain ⟨x4_3, ex4_3, h⟩ := bnd_of h
    refine x_iinc (ls' := [some (vr (xG X) th), some (vr (xG X) a1), some (vi x2), some (vi x3), some (vi x4_3)]) hX dX6_visitUp_17 rfl rfl ex4_3 rfl ?_
    refine x_goto (tgt := 3) hX dX6_visitUp_20 (by decide) ?_
    exact x_weak [true, true, true, true, true] rfl (hP (x4_3, M_2) (Option.some.inj h).symm)
noncomputable def f_X6_visitUp (th : Nat) (a1 : Nat) (x2 : Int) (x3 : Int) (M : Mem) : Option (Mem) :=
  lpb (wh (fun x => s_X6_visitUp_3 th a1 x2 x3 x.1 x.2) (1, M)) (fun z_4 => some z_4) (fun q => some q)
set_option maxRecDepth 100000 in
set_option maxHeartbeats 4000000 in
theorem c_X6_visitUp {l : Launch} {G : Gx} (hG : GOK G) (hl : l.stackTraces = false) {th : Nat} (h0 : at_ G th 16 0) {a1 : Nat} (h1 : at_ G a1 11 0) (x2 : Int) (x3 : Int) (M : Mem) (Mr : Mem) (h : f_X6_visitUp th a1 x2 x3 M = some Mr) : Cn l G mX6_visitUp 2 [vr G th, vr G a1, vi x2, vi x3] M none Mr := by
  refine Cn_of2 (ls := [some (vr G th), some (vr G a1), some (vi x2), some (vi x3), none]) hG hl kX6_visitUp rfl (Nat.le_of_ble_eq_true rfl) rfl rfl rfl rfl rfl (fun X eG el hX => ?_)
  subst eG; subst el
  unfold f_X6_visitUp at h
  refine x_iconst hX dX6_visitUp_0 ?_
  refine x_istore (ls' := [some (vr (xG X) th), some (vr (xG X) a1), some (vi x2), some (vi x3), some (vi 1)]) hX dX6_visitUp_1 rfl rfl rfl ?_
  refine x_weak (ls' := [some (vr (xG X) th), some (vr (xG X) a1), some (vi x2), some (vi x3), some (vi 1)]) [true, true, true, true, true] rfl ?_
  refine lp_use (x := (1, M)) (P := fun x => V X 0 0 (Qn X none Mr) 3 [some (vr (xG X) th), some (vr (xG X) a1), some (vi x2), some (vi x3), some (vi x.1)] [] x.2) (PE := fun z_4 => V X 0 0 (Qn X none Mr) 23 [none, none, none, none, none] [] z_4) (PR := fun q => (Qn X none Mr) = Qn X none q) h (fun x o hh hP hE hR => ts_X6_visitUp_3 hX h0 h1 x2 x3 x.1 x.2 o hh hP hE hR) (fun z_4 h => ?_) (fun q h => ?_)
  · show V X 0 0 (Qn X none Mr) 23 [none, none, none, none, none] [] z_4
    cases h
    exact x_vret hX dX6_visitUp_23 rfl
  · cases h; rfl
theorem dX6_visitDown_0 : decode cX6_visitDown 0 = .ok (.bipush 20, 2) := by decide +kernel
theorem dX6_visitDown_2 : decode cX6_visitDown 2 = .ok (.istore 4, 2) := by decide +kernel
theorem dX6_visitDown_4 : decode cX6_visitDown 4 = .ok (.iload 4, 2) := by decide +kernel
theorem dX6_visitDown_6 : decode cX6_visitDown 6 = .ok (.iload_n 3, 1) := by decide +kernel
theorem dX6_visitDown_7 : decode cX6_visitDown 7 = .ok (.if_icmp .lt 17, 3) := by decide +kernel
theorem dX6_visitDown_10 : decode cX6_visitDown 10 = .ok (.aload_n 0, 1) := by decide +kernel
theorem dX6_visitDown_11 : decode cX6_visitDown 11 = .ok (.aload_n 1, 1) := by decide +kernel
theorem dX6_visitDown_12 : decode cX6_visitDown 12 = .ok (.iload_n 2, 1) := by decide +kernel
theorem dX6_visitDown_13 : decode cX6_visitDown 13 = .ok (.iload 4, 2) := by decide +kernel
theorem dX6_visitDown_15 : decode cX6_visitDown 15 = .ok (.invokevirtual 172, 3) := by decide +kernel
theorem dX6_visitDown_18 : decode cX6_visitDown 18 = .ok (.iinc 4 (-1), 3) := by decide +kernel
theorem dX6_visitDown_21 : decode cX6_visitDown 21 = .ok (.goto (-17), 3) := by decide +kernel
theorem dX6_visitDown_24 : decode cX6_visitDown 24 = .ok (.return_, 1) := by decide +kernel
noncomputable def s_X6_visitDown_4 (th : Nat) (a1 : Nat) (x2 : Int) (x3 : Int) (x4 : Int) (M : Mem) : Option ((Int × Mem) ⊕ ((Mem) ⊕ (Mem))) :=
  (if w32 x4 < w32 x3 then some (.inr (.inl M)) else cl1 (f_X6_visitPlace th a1 x2 x4 M) (fun M_2 => bnd (x4 + (-1)) (fun x4_3 => some (.inl (x4_3, M_2)))))
set_option maxRecDepth 100000 in
set_option maxHeartbeats 4000000 in
theorem ts_X6_visitDown_4 {X : Cxt} (hX : Gd X RX6 cX6_visitDown 5 (none) 2) {th : Nat} (h0 : at_ (xG X) th 16 0) {a1 : Nat} (h1 : at_ (xG X) a1 11 0) (x2 : Int) (x3 : Int) (x4 : Int) (M : Mem) {Q : State → Prop} (o : (Int × Mem) ⊕ ((Mem) ⊕ (Mem))) (h : s_X6_visitDown_4 th a1 x2 x3 x4 M = some o) (hP : ∀ y, o = .inl y → V X 0 0 Q 4 [some (vr (xG X) th), some (vr (xG X) a1), some (vi x2), some (vi x3), some (vi y.1)] [] y.2) (hE : ∀ z, o = .inr (.inl z) → V X 0 0 Q 24 [none, none, none, none, none] [] z) (hR : ∀ q, o = .inr (.inr q) → Q = Qn X none q) : V X 0 0 Q 4 [some (vr (xG X) th), some (vr (xG X) a1), some (vi x2), some (vi x3), some (vi x4)] [] M := by
  unfold s_X6_visitDown_4 at h
  refine x_iload hX dX6_visitDown_4 rfl ?_
  refine x_iloadn hX dX6_visitDown_6 rfl ?_
  refine x_icmp_lt (tgt := 24) hX dX6_visitDown_7 (by decide) rfl rfl (fun hc => ?_) (fun hc => ?_)
  · replace h := (if_pos hc).symm.trans h
    exact x_weak [false, false, false, false, false] rfl (hE M (Option.some.inj h).symm)
  · replace h := (if_neg hc).symm.trans h
    refine x_aloadn hX dX6_visitDown_10 rfl ?_
    refine x_aloadn hX dX6_visitDown_11 rfl ?_
    refine x_iloadn hX dX6_visitDown_12 rfl ?_
    refine x_iload hX dX6_visitDown_13 rfl ?_
    obtain ⟨M_2, er_1, h⟩ := cl1_of h
    refine x_callVv (t := 6) (As := [vr (xG X) a1, vi x2, vi x4]) (rest := []) hX dX6_visitDown_15 (c_X6_visitPlace (gk hX) (gl hX) h0 h1 x2 x4 M _ er_1) kX6_visitPlace vX6_visitPlace w_1475 h0 rfl rfl rfl rfl (Nat.le_of_ble_eq_true rfl) z0 ?_
    obtain ⟨x4_3, ex4_3, h⟩ := bnd_of h
    refine x_iinc (ls' := [some (vr (xG X) th), some (vr (xG X) a1), some (vi x2), some (vi x3), some (vi x4_3)]) hX dX6_visitDown_18 rfl rfl ex4_3 rfl ?_
    refine x_goto (tgt := 4) hX dX6_visitDown_21 (by decide) ?_
    exact x_weak [true, true, true, true, true] rfl (hP (x4_3, M_2) (Option.some.inj h).symm)
noncomputable def f_X6_visitDown (th : Nat) (a1 : Nat) (x2 : Int) (x3 : Int) (M : Mem) : Option (Mem) :=
  lpb (wh (fun x => s_X6_visitDown_4 th a1 x2 x3 x.1 x.2) (20, M)) (fun z_4 => some z_4) (fun q => some q)
set_option maxRecDepth 100000 in
set_option maxHeartbeats 4000000 in
theorem c_X6_visitDown {l : Launch} {G : Gx} (hG : GOK G) (hl : l.stackTraces = false) {th : Nat} (h0 : at_ G th 16 0) {a1 : Nat} (h1 : at_ G a1 11 0) (x2 : Int) (x3 : Int) (M : Mem) (Mr : Mem) (h : f_X6_visitDown th a1 x2 x3 M = some Mr) : Cn l G mX6_visitDown 2 [vr G th, vr G a1, vi x2, vi x3] M none Mr := by
  refine Cn_of2 (ls := [some (vr G th), some (vr G a1), some (vi x2), some (vi x3), none]) hG hl kX6_visitDown rfl (Nat.le_of_ble_eq_true rfl) rfl rfl rfl rfl rfl (fun X eG el hX => ?_)
  subst eG; subst el
  unfold f_X6_visitDown at h
  refine x_bipush hX dX6_visitDown_0 bp_20 ?_
  refine x_istore (ls' := [some (vr (xG X) th), some (vr (xG X) a1), some (vi x2), some (vi x3), some (vi 20)]) hX dX6_visitDown_2 rfl rfl rfl ?_
  refine x_weak (ls' := [some (vr (xG X) th), some (vr (xG X) a1), some (vi x2), some (vi x3), some (vi 20)]) [true, true, true, true, true] rfl ?_
  refine lp_use (x := (20, M)) (P := fun x => V X 0 0 (Qn X none Mr) 4 [some (vr (xG X) th), some (vr (xG X) a1), some (vi x2), some (vi x3), some (vi x.1)] [] x.2) (PE := fun z_4 => V X 0 0 (Qn X none Mr) 24 [none, none, none, none, none] [] z_4) (PR := fun q => (Qn X none Mr) = Qn X none q) h (fun x o hh hP hE hR => ts_X6_visitDown_4 hX h0 h1 x2 x3 x.1 x.2 o hh hP hE hR) (fun z_4 h => ?_) (fun q h => ?_)
  · show V X 0 0 (Qn X none Mr) 24 [none, none, none, none, none] [] z_4
    cases h
    exact x_vret hX dX6_visitDown_24 rfl
  · cases h; rfl
