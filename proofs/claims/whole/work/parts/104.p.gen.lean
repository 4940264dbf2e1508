-- written by wip/gen/emit.py: X7_run, X8_candidatesIn, X8_seedValue, X9_fillKeys, X10_nextToken, X11_totalPicked, X0_takeOut, X0_move, X3_reset, X5_shortOfDone, X5_canBeRepeated, X6_lengthIn, X6_listReturn, X6_visitFrom, X8_seedAmong
theorem dX7_run_0 : decode cX7_run 0 = .ok (.iconst 0, 1) := by decide +kernel
theorem dX7_run_1 : decode cX7_run 1 = .ok (.istore 4, 2) := by decide +kernel
theorem dX7_run_3 : decode cX7_run 3 = .ok (.iconst 0, 1) := by decide +kernel
theorem dX7_run_4 : decode cX7_run 4 = .ok (.istore 5, 2) := by decide +kernel
theorem dX7_run_6 : decode cX7_run 6 = .ok (.iload 5, 2) := by decide +kernel
theorem dX7_run_8 : decode cX7_run 8 = .ok (.aload_n 1, 1) := by decide +kernel
theorem dX7_run_9 : decode cX7_run 9 = .ok (.getfield 53, 3) := by decide +kernel
theorem dX7_run_12 : decode cX7_run 12 = .ok (.if_icmp .ge 100, 3) := by decide +kernel
theorem dX7_run_15 : decode cX7_run 15 = .ok (.iload_n 2, 1) := by decide +kernel
theorem dX7_run_16 : decode cX7_run 16 = .ok (.ifCond .ne 7, 3) := by decide +kernel
theorem dX7_run_19 : decode cX7_run 19 = .ok (.iconst 0, 1) := by decide +kernel
theorem dX7_run_20 : decode cX7_run 20 = .ok (.goto 14, 3) := by decide +kernel
theorem dX7_run_23 : decode cX7_run 23 = .ok (.aload_n 0, 1) := by decide +kernel
theorem dX7_run_24 : decode cX7_run 24 = .ok (.getfield 19, 3) := by decide +kernel
theorem dX7_run_27 : decode cX7_run 27 = .ok (.iload_n 2, 1) := by decide +kernel
theorem dX7_run_28 : decode cX7_run 28 = .ok (.iconst 1, 1) := by decide +kernel
theorem dX7_run_29 : decode cX7_run 29 = .ok (.isub, 1) := by decide +kernel
theorem dX7_run_30 : decode cX7_run 30 = .ok (.aaload, 1) := by decide +kernel
theorem dX7_run_31 : decode cX7_run 31 = .ok (.iload 5, 2) := by decide +kernel
theorem dX7_run_33 : decode cX7_run 33 = .ok (.iaload, 1) := by decide +kernel
theorem dX7_run_34 : decode cX7_run 34 = .ok (.istore 6, 2) := by decide +kernel
theorem dX7_run_36 : decode cX7_run 36 = .ok (.aload_n 0, 1) := by decide +kernel
theorem dX7_run_37 : decode cX7_run 37 = .ok (.getfield 16, 3) := by decide +kernel
theorem dX7_run_40 : decode cX7_run 40 = .ok (.iload_n 2, 1) := by decide +kernel
theorem dX7_run_41 : decode cX7_run 41 = .ok (.aaload, 1) := by decide +kernel
theorem dX7_run_42 : decode cX7_run 42 = .ok (.iload 5, 2) := by decide +kernel
theorem dX7_run_44 : decode cX7_run 44 = .ok (.iload 4, 2) := by decide +kernel
theorem dX7_run_46 : decode cX7_run 46 = .ok (.iload 6, 2) := by decide +kernel
theorem dX7_run_48 : decode cX7_run 48 = .ok (.invokestatic 83, 3) := by decide +kernel
theorem dX7_run_51 : decode cX7_run 51 = .ok (.iastore, 1) := by decide +kernel
theorem dX7_run_52 : decode cX7_run 52 = .ok (.aload_n 0, 1) := by decide +kernel
theorem dX7_run_53 : decode cX7_run 53 = .ok (.getfield 16, 3) := by decide +kernel
theorem dX7_run_56 : decode cX7_run 56 = .ok (.iload_n 2, 1) := by decide +kernel
theorem dX7_run_57 : decode cX7_run 57 = .ok (.aaload, 1) := by decide +kernel
theorem dX7_run_58 : decode cX7_run 58 = .ok (.iload 5, 2) := by decide +kernel
theorem dX7_run_60 : decode cX7_run 60 = .ok (.iaload, 1) := by decide +kernel
theorem dX7_run_61 : decode cX7_run 61 = .ok (.aload_n 0, 1) := by decide +kernel
theorem dX7_run_62 : decode cX7_run 62 = .ok (.getfield 11, 3) := by decide +kernel
theorem dX7_run_65 : decode cX7_run 65 = .ok (.iload_n 3, 1) := by decide +kernel
theorem dX7_run_66 : decode cX7_run 66 = .ok (.aaload, 1) := by decide +kernel
theorem dX7_run_67 : decode cX7_run 67 = .ok (.iload 5, 2) := by decide +kernel
theorem dX7_run_69 : decode cX7_run 69 = .ok (.iaload, 1) := by decide +kernel
theorem dX7_run_70 : decode cX7_run 70 = .ok (.iadd, 1) := by decide +kernel
theorem dX7_run_71 : decode cX7_run 71 = .ok (.istore 7, 2) := by decide +kernel
theorem dX7_run_73 : decode cX7_run 73 = .ok (.aload_n 0, 1) := by decide +kernel
theorem dX7_run_74 : decode cX7_run 74 = .ok (.getfield 19, 3) := by decide +kernel
theorem dX7_run_77 : decode cX7_run 77 = .ok (.iload_n 2, 1) := by decide +kernel
theorem dX7_run_78 : decode cX7_run 78 = .ok (.aaload, 1) := by decide +kernel
theorem dX7_run_79 : decode cX7_run 79 = .ok (.iload 5, 2) := by decide +kernel
theorem dX7_run_81 : decode cX7_run 81 = .ok (.iload 7, 2) := by decide +kernel
theorem dX7_run_83 : decode cX7_run 83 = .ok (.aload_n 0, 1) := by decide +kernel
theorem dX7_run_84 : decode cX7_run 84 = .ok (.aload_n 1, 1) := by decide +kernel
theorem dX7_run_85 : decode cX7_run 85 = .ok (.iload_n 2, 1) := by decide +kernel
theorem dX7_run_86 : decode cX7_run 86 = .ok (.iload 5, 2) := by decide +kernel
theorem dX7_run_88 : decode cX7_run 88 = .ok (.invokevirtual 89, 3) := by decide +kernel
theorem dX7_run_91 : decode cX7_run 91 = .ok (.invokestatic 83, 3) := by decide +kernel
theorem dX7_run_94 : decode cX7_run 94 = .ok (.iastore, 1) := by decide +kernel
theorem dX7_run_95 : decode cX7_run 95 = .ok (.aload_n 0, 1) := by decide +kernel
theorem dX7_run_96 : decode cX7_run 96 = .ok (.getfield 19, 3) := by decide +kernel
theorem dX7_run_99 : decode cX7_run 99 = .ok (.iload_n 2, 1) := by decide +kernel
theorem dX7_run_100 : decode cX7_run 100 = .ok (.aaload, 1) := by decide +kernel
theorem dX7_run_101 : decode cX7_run 101 = .ok (.iload 5, 2) := by decide +kernel
theorem dX7_run_103 : decode cX7_run 103 = .ok (.iaload, 1) := by decide +kernel
theorem dX7_run_104 : decode cX7_run 104 = .ok (.istore 4, 2) := by decide +kernel
theorem dX7_run_106 : decode cX7_run 106 = .ok (.iinc 5 1, 3) := by decide +kernel
theorem dX7_run_109 : decode cX7_run 109 = .ok (.goto (-103), 3) := by decide +kernel
theorem dX7_run_112 : decode cX7_run 112 = .ok (.return_, 1) := by decide +kernel
noncomputable def j_X7_run_34_6 (th : Nat) (a1 : Nat)  (x2 : Int) (x3 : Int) (x4 : Int) (x5 : Int) (y0 : Int) (M : Mem) : Option ((Int × Int × Mem) ⊕ ((Mem) ⊕ (Mem))) :=
  gi x2 8 (gi x5 3 (bnd (upd2 M (th + 10 + 1 + ix x2) (ix x5) (i_max x4 y0)) (fun M_2 => gi x2 8 (gi x5 3 (gi x3 8 (gi x5 3 (bnd ((M_2 (th + 10 + 1 + ix x2) (ix x5)) + (M_2 (th + 1 + 1 + ix x3) (ix x5))) (fun x7_8 => gi x2 8 (cl1 (f_X7_exitOpens th a1 x2 x5 M_2) (fun r_10 => gi x5 3 (bnd (upd2 M_2 (th + 19 + 1 + ix x2) (ix x5) (i_max x7_8 r_10)) (fun M_12 => gi x2 8 (gi x5 3 (bnd (M_12 (th + 19 + 1 + ix x2) (ix x5)) (fun x4_16 => bnd (x5 + 1) (fun x5_17 => some (.inl (x4_16, x5_17, M_12))))))))))))))))))
set_option maxRecDepth 100000 in
set_option maxHeartbeats 4000000 in
theorem tj_X7_run_34_6 {X : Cxt} (hX : Gd X RX7 cX7_run 8 (none) 2) {th : Nat} (h0 : at_ (xG X) th 17 0) {a1 : Nat} (h1 : at_ (xG X) a1 13 0)  (x2 : Int) (x3 : Int) (x4 : Int) (x5 : Int) (y0 : Int) (M : Mem) {Q : State → Prop} (o : (Int × Int × Mem) ⊕ ((Mem) ⊕ (Mem))) (h : j_X7_run_34_6 th a1 x2 x3 x4 x5 y0 M = some o) (hP : ∀ y, o = .inl y → V X 0 0 Q 6 [some (vr (xG X) th), some (vr (xG X) a1), some (vi x2), some (vi x3), some (vi y.1), some (vi y.2.1), none, none] [] y.2.2) (hE : ∀ z, o = .inr (.inl z) → V X 0 0 Q 112 [none, none, none, none, none, none, none, none] [] z) (hR : ∀ q, o = .inr (.inr q) → Q = Qn X none q) : V X 0 0 Q 34 [some (vr (xG X) th), some (vr (xG X) a1), some (vi x2), some (vi x3), some (vi x4), some (vi x5), none, none] [vi y0] M := by
  unfold j_X7_run_34_6 at h
  refine x_istore (ls' := [some (vr (xG X) th), some (vr (xG X) a1), some (vi x2), some (vi x3), some (vi x4), some (vi x5), some (vi y0), none]) hX dX7_run_34 rfl rfl rfl ?_
  refine x_aloadn hX dX7_run_36 rfl ?_
  refine x_getRj (j := th + 10) hX dX7_run_37 fl_X7_16 rfl h0 rfl ?_
  refine x_iloadn hX dX7_run_40 rfl ?_
  obtain ⟨b_1, h⟩ := gi_of h
  refine x_aald2 hX dX7_run_41 (fo_7_1 (gk hX) h0) b_1 ?_
  refine x_iload hX dX7_run_42 rfl ?_
  refine x_iload hX dX7_run_44 rfl ?_
  refine x_iload hX dX7_run_46 rfl ?_
  refine x_max (st := [vi x5, vr (xG X) (th + 10 + 1 + ix x2)]) hX dX7_run_48 maxw_X7_83 (Nat.le_of_ble_eq_true rfl) z0 ?_
  obtain ⟨b_3, h⟩ := gi_of h
  obtain ⟨M_2, eM_2, h⟩ := bnd_of h
  refine x_iast hX dX7_run_51 (ro (gk hX) (fo_7_1 (gk hX) h0) b_1) b_3 rfl (x_meq eM_2 ?_)
  refine x_aloadn hX dX7_run_52 rfl ?_
  refine x_getRj (j := th + 10) hX dX7_run_53 fl_X7_16 rfl h0 rfl ?_
  refine x_iloadn hX dX7_run_56 rfl ?_
  obtain ⟨b_4, h⟩ := gi_of h
  refine x_aald2 hX dX7_run_57 (fo_7_1 (gk hX) h0) b_4 ?_
  refine x_iload hX dX7_run_58 rfl ?_
  obtain ⟨b_5, h⟩ := gi_of h
  refine x_iald hX dX7_run_60 (ro (gk hX) (fo_7_1 (gk hX) h0) b_4) b_5 rfl ?_
  refine x_aloadn hX dX7_run_61 rfl ?_
  refine x_getRj (j := th + 1) hX dX7_run_62 fl_X7_11 rfl h0 rfl ?_
  refine x_iloadn hX dX7_run_65 rfl ?_
  obtain ⟨b_6, h⟩ := gi_of h
  refine x_aald2 hX dX7_run_66 (fo_7_0 (gk hX) h0) b_6 ?_
  refine x_iload hX dX7_run_67 rfl ?_
  obtain ⟨b_7, h⟩ := gi_of h
  refine x_iald hX dX7_run_69 (ro (gk hX) (fo_7_0 (gk hX) h0) b_6) b_7 rfl ?_
  refine x_iadd hX dX7_run_70 ?_
  obtain ⟨x7_8, ex7_8, h⟩ := bnd_of h
  refine x_istore (ls' := [some (vr (xG X) th), some (vr (xG X) a1), some (vi x2), some (vi x3), some (vi x4), some (vi x5), some (vi y0), some (vi x7_8)]) hX dX7_run_71 rfl ex7_8 rfl ?_
  refine x_aloadn hX dX7_run_73 rfl ?_
  refine x_getRj (j := th + 19) hX dX7_run_74 fl_X7_19 rfl h0 rfl ?_
  refine x_iloadn hX dX7_run_77 rfl ?_
  obtain ⟨b_9, h⟩ := gi_of h
  refine x_aald2 hX dX7_run_78 (fo_7_2 (gk hX) h0) b_9 ?_
  refine x_iload hX dX7_run_79 rfl ?_
  refine x_iload hX dX7_run_81 rfl ?_
  refine x_aloadn hX dX7_run_83 rfl ?_
  refine x_aloadn hX dX7_run_84 rfl ?_
  refine x_iloadn hX dX7_run_85 rfl ?_
  refine x_iload hX dX7_run_86 rfl ?_
  obtain ⟨r_10, er_10, h⟩ := cl1_of h
  refine x_callVi (t := 7) (As := [vr (xG X) a1, vi x2, vi x5]) (rest := [vi x7_8, vi x5, vr (xG X) (th + 19 + 1 + ix x2)]) hX dX7_run_88 (c_X7_exitOpens (gk hX) (gl hX) h0 h1 x2 x5 M_2 _ er_10) kX7_exitOpens vX7_exitOpens w_690 h0 rfl rfl rfl rfl (Nat.le_of_ble_eq_true rfl) z0 ?_
  refine x_max (st := [vi x5, vr (xG X) (th + 19 + 1 + ix x2)]) hX dX7_run_91 maxw_X7_83 (Nat.le_of_ble_eq_true rfl) z0 ?_
  obtain ⟨b_13, h⟩ := gi_of h
  obtain ⟨M_12, eM_12, h⟩ := bnd_of h
  refine x_iast hX dX7_run_94 (ro (gk hX) (fo_7_2 (gk hX) h0) b_9) b_13 rfl (x_meq eM_12 ?_)
  refine x_aloadn hX dX7_run_95 rfl ?_
  refine x_getRj (j := th + 19) hX dX7_run_96 fl_X7_19 rfl h0 rfl ?_
  refine x_iloadn hX dX7_run_99 rfl ?_
  obtain ⟨b_14, h⟩ := gi_of h
  refine x_aald2 hX dX7_run_100 (fo_7_2 (gk hX) h0) b_14 ?_
  refine x_iload hX dX7_run_101 rfl ?_
  obtain ⟨b_15, h⟩ := gi_of h
  refine x_iald hX dX7_run_103 (ro (gk hX) (fo_7_2 (gk hX) h0) b_14) b_15 rfl ?_
  obtain ⟨x4_16, ex4_16, h⟩ := bnd_of h
  refine x_istore (ls' := [some (vr (xG X) th), some (vr (xG X) a1), some (vi x2), some (vi x3), some (vi x4_16), some (vi x5), some (vi y0), some (vi x7_8)]) hX dX7_run_104 rfl ex4_16 rfl ?_
  obtain ⟨x5_17, ex5_17, h⟩ := bnd_of h
  refine x_iinc (ls' := [some (vr (xG X) th), some (vr (xG X) a1), some (vi x2), some (vi x3), some (vi x4_16), some (vi x5_17), some (vi y0), some (vi x7_8)]) hX dX7_run_106 rfl rfl ex5_17 rfl ?_
  refine x_goto (tgt := 6) hX dX7_run_109 (by decide) ?_
  exact x_weak [true, true, true, true, true, true, false, false] rfl (hP (x4_16, x5_17, M_12) (Option.some.inj h).symm)
noncomputable def s_X7_run_6 (th : Nat) (a1 : Nat) (x2 : Int) (x3 : Int) (x4 : Int) (x5 : Int) (M : Mem) : Option ((Int × Int × Mem) ⊕ ((Mem) ⊕ (Mem))) :=
  (if w32 x5 < w32 (M a1 3) then (if w32 x2 = 0 then j_X7_run_34_6 th a1 x2 x3 x4 x5 0 M else gi (x2 - 1) 8 (gi x5 3 (j_X7_run_34_6 th a1 x2 x3 x4 x5 (M (th + 19 + 1 + ix (x2 - 1)) (ix x5)) M))) else some (.inr (.inl M)))
set_option maxRecDepth 100000 in
set_option maxHeartbeats 4000000 in
theorem ts_X7_run_6 {X : Cxt} (hX : Gd X RX7 cX7_run 8 (none) 2) {th : Nat} (h0 : at_ (xG X) th 17 0) {a1 : Nat} (h1 : at_ (xG X) a1 13 0) (x2 : Int) (x3 : Int) (x4 : Int) (x5 : Int) (M : Mem) {Q : State → Prop} (o : (Int × Int × Mem) ⊕ ((Mem) ⊕ (Mem))) (h : s_X7_run_6 th a1 x2 x3 x4 x5 M = some o) (hP : ∀ y, o = .inl y → V X 0 0 Q 6 [some (vr (xG X) th), some (vr (xG X) a1), some (vi x2), some (vi x3), some (vi y.1), some (vi y.2.1), none, none] [] y.2.2) (hE : ∀ z, o = .inr (.inl z) → V X 0 0 Q 112 [none, none, none, none, none, none, none, none] [] z) (hR : ∀ q, o = .inr (.inr q) → Q = Qn X none q) : V X 0 0 Q 6 [some (vr (xG X) th), some (vr (xG X) a1), some (vi x2), some (vi x3), some (vi x4), some (vi x5), none, none] [] M := by
  unfold s_X7_run_6 at h
  refine x_iload hX dX7_run_6 rfl ?_
  refine x_aloadn hX dX7_run_8 rfl ?_
  refine x_getI hX dX7_run_9 fl_X7_53 rfl h1 ?_
  refine x_icmp_ge (tgt := 112) hX dX7_run_12 (by decide) rfl rfl (fun hc => ?_) (fun hc => ?_)
  · replace h := (if_pos hc).symm.trans h
    refine x_iloadn hX dX7_run_15 rfl ?_
    refine x_if_ne (tgt := 23) hX dX7_run_16 (by decide) rfl (fun hc => ?_) (fun hc => ?_)
    · replace h := (if_pos hc).symm.trans h
      refine x_iconst hX dX7_run_19 ?_
      refine x_goto (tgt := 34) hX dX7_run_20 (by decide) ?_
      exact x_weak [true, true, true, true, true, true, false, false] rfl (tj_X7_run_34_6 hX h0 h1 x2 x3 x4 x5 0 M o h hP hE hR)
    · replace h := (if_neg hc).symm.trans h
      refine x_aloadn hX dX7_run_23 rfl ?_
      refine x_getRj (j := th + 19) hX dX7_run_24 fl_X7_19 rfl h0 rfl ?_
      refine x_iloadn hX dX7_run_27 rfl ?_
      refine x_iconst hX dX7_run_28 ?_
      refine x_isub hX dX7_run_29 ?_
      obtain ⟨b_18, h⟩ := gi_of h
      refine x_aald2 hX dX7_run_30 (fo_7_2 (gk hX) h0) b_18 ?_
      refine x_iload hX dX7_run_31 rfl ?_
      obtain ⟨b_19, h⟩ := gi_of h
      refine x_iald hX dX7_run_33 (ro (gk hX) (fo_7_2 (gk hX) h0) b_18) b_19 rfl ?_
      exact x_weak [true, true, true, true, true, true, false, false] rfl (tj_X7_run_34_6 hX h0 h1 x2 x3 x4 x5 (M (th + 19 + 1 + ix (x2 - 1)) (ix x5)) M o h hP hE hR)
  · replace h := (if_neg hc).symm.trans h
    exact x_weak [false, false, false, false, false, false, false, false] rfl (hE M (Option.some.inj h).symm)
noncomputable def f_X7_run (th : Nat) (a1 : Nat) (x2 : Int) (x3 : Int) (M : Mem) : Option (Mem) :=
  lpb (wh (fun x => s_X7_run_6 th a1 x2 x3 x.1 x.2.1 x.2.2) (0, 0, M)) (fun z_20 => some z_20) (fun q => some q)
set_option maxRecDepth 100000 in
set_option maxHeartbeats 4000000 in
theorem c_X7_run {l : Launch} {G : Gx} (hG : GOK G) (hl : l.stackTraces = false) {th : Nat} (h0 : at_ G th 17 0) {a1 : Nat} (h1 : at_ G a1 13 0) (x2 : Int) (x3 : Int) (M : Mem) (Mr : Mem) (h : f_X7_run th a1 x2 x3 M = some Mr) : Cn l G mX7_run 2 [vr G th, vr G a1, vi x2, vi x3] M none Mr := by
  refine Cn_of2 (ls := [some (vr G th), some (vr G a1), some (vi x2), some (vi x3), none, none, none, none]) hG hl kX7_run rfl (Nat.le_of_ble_eq_true rfl) rfl rfl rfl rfl rfl (fun X eG el hX => ?_)
  subst eG; subst el
  unfold f_X7_run at h
  refine x_iconst hX dX7_run_0 ?_
  refine x_istore (ls' := [some (vr (xG X) th), some (vr (xG X) a1), some (vi x2), some (vi x3), some (vi 0), none, none, none]) hX dX7_run_1 rfl rfl rfl ?_
  refine x_iconst hX dX7_run_3 ?_
  refine x_istore (ls' := [some (vr (xG X) th), some (vr (xG X) a1), some (vi x2), some (vi x3), some (vi 0), some (vi 0), none, none]) hX dX7_run_4 rfl rfl rfl ?_
  refine x_weak (ls' := [some (vr (xG X) th), some (vr (xG X) a1), some (vi x2), some (vi x3), some (vi 0), some (vi 0), none, none]) [true, true, true, true, true, true, false, false] rfl ?_
  refine lp_use (x := (0, 0, M)) (P := fun x => V X 0 0 (Qn X none Mr) 6 [some (vr (xG X) th), some (vr (xG X) a1), some (vi x2), some (vi x3), some (vi x.1), some (vi x.2.1), none, none] [] x.2.2) (PE := fun z_20 => V X 0 0 (Qn X none Mr) 112 [none, none, none, none, none, none, none, none] [] z_20) (PR := fun q => (Qn X none Mr) = Qn X none q) h (fun x o hh hP hE hR => ts_X7_run_6 hX h0 h1 x2 x3 x.1 x.2.1 x.2.2 o hh hP hE hR) (fun z_20 h => ?_) (fun q h => ?_)
  · show V X 0 0 (Qn X none Mr) 112 [none, none, none, none, none, none, none, none] [] z_20
    cases h
    exact x_vret hX dX7_run_112 rfl
  · cases h; rfl
theorem dX8_candidatesIn_0 : decode cX8_candidatesIn 0 = .ok (.iconst 0, 1) := by decide +kernel
theorem dX8_candidatesIn_1 : decode cX8_candidatesIn 1 = .ok (.istore_n 2, 1) := by decide +kernel
theorem dX8_candidatesIn_2 : decode cX8_candidatesIn 2 = .ok (.iconst 0, 1) := by decide +kernel
theorem dX8_candidatesIn_3 : decode cX8_candidatesIn 3 = .ok (.istore_n 3, 1) := by decide +kernel
theorem dX8_candidatesIn_4 : decode cX8_candidatesIn 4 = .ok (.iload_n 3, 1) := by decide +kernel
theorem dX8_candidatesIn_5 : decode cX8_candidatesIn 5 = .ok (.aload_n 0, 1) := by decide +kernel
theorem dX8_candidatesIn_6 : decode cX8_candidatesIn 6 = .ok (.getfield 39, 3) := by decide +kernel
theorem dX8_candidatesIn_9 : decode cX8_candidatesIn 9 = .ok (.getfield 43, 3) := by decide +kernel
theorem dX8_candidatesIn_12 : decode cX8_candidatesIn 12 = .ok (.if_icmp .ge 34, 3) := by decide +kernel
theorem dX8_candidatesIn_15 : decode cX8_candidatesIn 15 = .ok (.aload_n 0, 1) := by decide +kernel
theorem dX8_candidatesIn_16 : decode cX8_candidatesIn 16 = .ok (.iconst 1, 1) := by decide +kernel
theorem dX8_candidatesIn_17 : decode cX8_candidatesIn 17 = .ok (.iload_n 3, 1) := by decide +kernel
theorem dX8_candidatesIn_18 : decode cX8_candidatesIn 18 = .ok (.ishl, 1) := by decide +kernel
theorem dX8_candidatesIn_19 : decode cX8_candidatesIn 19 = .ok (.invokevirtual 46, 3) := by decide +kernel
theorem dX8_candidatesIn_22 : decode cX8_candidatesIn 22 = .ok (.ifCond .eq 18, 3) := by decide +kernel
theorem dX8_candidatesIn_25 : decode cX8_candidatesIn 25 = .ok (.aload_n 0, 1) := by decide +kernel
theorem dX8_candidatesIn_26 : decode cX8_candidatesIn 26 = .ok (.iload_n 3, 1) := by decide +kernel
theorem dX8_candidatesIn_27 : decode cX8_candidatesIn 27 = .ok (.invokevirtual 50, 3) := by decide +kernel
theorem dX8_candidatesIn_30 : decode cX8_candidatesIn 30 = .ok (.iload_n 1, 1) := by decide +kernel
theorem dX8_candidatesIn_31 : decode cX8_candidatesIn 31 = .ok (.if_icmp .gt 9, 3) := by decide +kernel
theorem dX8_candidatesIn_34 : decode cX8_candidatesIn 34 = .ok (.iload_n 2, 1) := by decide +kernel
theorem dX8_candidatesIn_35 : decode cX8_candidatesIn 35 = .ok (.iconst 1, 1) := by decide +kernel
theorem dX8_candidatesIn_36 : decode cX8_candidatesIn 36 = .ok (.iload_n 3, 1) := by decide +kernel
theorem dX8_candidatesIn_37 : decode cX8_candidatesIn 37 = .ok (.ishl, 1) := by decide +kernel
theorem dX8_candidatesIn_38 : decode cX8_candidatesIn 38 = .ok (.ior, 1) := by decide +kernel
theorem dX8_candidatesIn_39 : decode cX8_candidatesIn 39 = .ok (.istore_n 2, 1) := by decide +kernel
theorem dX8_candidatesIn_40 : decode cX8_candidatesIn 40 = .ok (.iinc 3 1, 3) := by decide +kernel
theorem dX8_candidatesIn_43 : decode cX8_candidatesIn 43 = .ok (.goto (-39), 3) := by decide +kernel
theorem dX8_candidatesIn_46 : decode cX8_candidatesIn 46 = .ok (.iload_n 2, 1) := by decide +kernel
theorem dX8_candidatesIn_47 : decode cX8_candidatesIn 47 = .ok (.ireturn, 1) := by decide +kernel
noncomputable def j_X8_candidatesIn_40_4 (a0 : Nat)  (x1 : Int) (x2 : Int) (x3 : Int) (M : Mem) : Option ((Int × Int) ⊕ ((Int) ⊕ (Int))) :=
  bnd (x3 + 1) (fun x3_3 => some (.inl (x2, x3_3)))
set_option maxRecDepth 100000 in
set_option maxHeartbeats 4000000 in
theorem tj_X8_candidatesIn_40_4 {X : Cxt} (hX : Gd X RX8 cX8_candidatesIn 4 (some .int) 2) {a0 : Nat} (h0 : at_ (xG X) a0 11 0)  (x1 : Int) (x2 : Int) (x3 : Int) (M : Mem) {Q : State → Prop} (o : (Int × Int) ⊕ ((Int) ⊕ (Int))) (h : j_X8_candidatesIn_40_4 a0 x1 x2 x3 M = some o) (hP : ∀ y, o = .inl y → V X 0 0 Q 4 [some (vr (xG X) a0), some (vi x1), some (vi y.1), some (vi y.2)] [] M) (hE : ∀ z, o = .inr (.inl z) → V X 0 0 Q 46 [none, none, some (vi z), none] [] M) (hR : ∀ q, o = .inr (.inr q) → Q = Qn X (some (vi q)) M) : V X 0 0 Q 40 [some (vr (xG X) a0), some (vi x1), some (vi x2), some (vi x3)] [] M := by
  unfold j_X8_candidatesIn_40_4 at h
  obtain ⟨x3_3, ex3_3, h⟩ := bnd_of h
  refine x_iinc (ls' := [some (vr (xG X) a0), some (vi x1), some (vi x2), some (vi x3_3)]) hX dX8_candidatesIn_40 rfl rfl ex3_3 rfl ?_
  refine x_goto (tgt := 4) hX dX8_candidatesIn_43 (by decide) ?_
  exact x_weak [true, true, true, true] rfl (hP (x2, x3_3) (Option.some.inj h).symm)
noncomputable def s_X8_candidatesIn_4 (a0 : Nat) (x1 : Int) (M : Mem) (x2 : Int) (x3 : Int) : Option ((Int × Int) ⊕ ((Int) ⊕ (Int))) :=
  (if w32 x3 < w32 (M (a0 + 9) 0) then cl1 (f_X1_canBeBatched a0 (i_shl 1 x3) M) (fun r_1 => (if w32 r_1 = 0 then j_X8_candidatesIn_40_4 a0 x1 x2 x3 M else cl1 (f_X1_weightOf a0 x3 M) (fun r_4 => (if w32 x1 < w32 r_4 then j_X8_candidatesIn_40_4 a0 x1 x2 x3 M else bnd (i_or x2 (i_shl 1 x3)) (fun x2_6 => j_X8_candidatesIn_40_4 a0 x1 x2_6 x3 M))))) else some (.inr (.inl x2)))
set_option maxRecDepth 100000 in
set_option maxHeartbeats 4000000 in
theorem ts_X8_candidatesIn_4 {X : Cxt} (hX : Gd X RX8 cX8_candidatesIn 4 (some .int) 2) {a0 : Nat} (h0 : at_ (xG X) a0 11 0) (x1 : Int) (M : Mem) (x2 : Int) (x3 : Int) {Q : State → Prop} (o : (Int × Int) ⊕ ((Int) ⊕ (Int))) (h : s_X8_candidatesIn_4 a0 x1 M x2 x3 = some o) (hP : ∀ y, o = .inl y → V X 0 0 Q 4 [some (vr (xG X) a0), some (vi x1), some (vi y.1), some (vi y.2)] [] M) (hE : ∀ z, o = .inr (.inl z) → V X 0 0 Q 46 [none, none, some (vi z), none] [] M) (hR : ∀ q, o = .inr (.inr q) → Q = Qn X (some (vi q)) M) : V X 0 0 Q 4 [some (vr (xG X) a0), some (vi x1), some (vi x2), some (vi x3)] [] M := by
  unfold s_X8_candidatesIn_4 at h
  refine x_iloadn hX dX8_candidatesIn_4 rfl ?_
  refine x_aloadn hX dX8_candidatesIn_5 rfl ?_
  refine x_getRj (j := a0 + 9) hX dX8_candidatesIn_6 fl_X8_39 rfl h0 rfl ?_
  refine x_getI hX dX8_candidatesIn_9 fl_X8_43 rfl (fo_1_2 (gk hX) h0) ?_
  refine x_icmp_ge (tgt := 46) hX dX8_candidatesIn_12 (by decide) rfl rfl (fun hc => ?_) (fun hc => ?_)
  · replace h := (if_pos hc).symm.trans h
    refine x_aloadn hX dX8_candidatesIn_15 rfl ?_
    refine x_iconst hX dX8_candidatesIn_16 ?_
    refine x_iloadn hX dX8_candidatesIn_17 rfl ?_
    refine x_ishl hX dX8_candidatesIn_18 ?_
    obtain ⟨r_1, er_1, h⟩ := cl1_of h
    refine x_callVi (t := 1) (As := [vi (i_shl 1 x3)]) (rest := []) hX dX8_candidatesIn_19 (c_X1_canBeBatched (gk hX) (gl hX) h0 (i_shl 1 x3) M _ er_1) kX1_canBeBatched vX1_canBeBatched w_1225 h0 rfl rfl rfl rfl (Nat.le_of_ble_eq_true rfl) z0 ?_
    refine x_if_eq (tgt := 40) hX dX8_candidatesIn_22 (by decide) rfl (fun hc => ?_) (fun hc => ?_)
    · replace h := (if_pos hc).symm.trans h
      exact x_weak [true, true, true, true] rfl (tj_X8_candidatesIn_40_4 hX h0 x1 x2 x3 M o h hP hE hR)
    · replace h := (if_neg hc).symm.trans h
      refine x_aloadn hX dX8_candidatesIn_25 rfl ?_
      refine x_iloadn hX dX8_candidatesIn_26 rfl ?_
      obtain ⟨r_4, er_4, h⟩ := cl1_of h
      refine x_callVi (t := 1) (As := [vi x3]) (rest := []) hX dX8_candidatesIn_27 (c_X1_weightOf (gk hX) (gl hX) h0 x3 M _ er_4) kX1_weightOf vX1_weightOf w_1229 h0 rfl rfl rfl rfl (Nat.le_of_ble_eq_true rfl) z0 ?_
      refine x_iloadn hX dX8_candidatesIn_30 rfl ?_
      refine x_icmp_gt (tgt := 40) hX dX8_candidatesIn_31 (by decide) rfl rfl (fun hc => ?_) (fun hc => ?_)
      · replace h := (if_pos hc).symm.trans h
        exact x_weak [true, true, true, true] rfl (tj_X8_candidatesIn_40_4 hX h0 x1 x2 x3 M o h hP hE hR)
      · replace h := (if_neg hc).symm.trans h
        refine x_iloadn hX dX8_candidatesIn_34 rfl ?_
        refine x_iconst hX dX8_candidatesIn_35 ?_
        refine x_iloadn hX dX8_candidatesIn_36 rfl ?_
        refine x_ishl hX dX8_candidatesIn_37 ?_
        refine x_ior hX dX8_candidatesIn_38 ?_
        obtain ⟨x2_6, ex2_6, h⟩ := bnd_of h
        refine x_istoren (ls' := [some (vr (xG X) a0), some (vi x1), some (vi x2_6), some (vi x3)]) hX dX8_candidatesIn_39 rfl ex2_6 rfl ?_
        exact x_weak [true, true, true, true] rfl (tj_X8_candidatesIn_40_4 hX h0 x1 x2_6 x3 M o h hP hE hR)
  · replace h := (if_neg hc).symm.trans h
    exact x_weak [false, false, true, false] rfl (hE x2 (Option.some.inj h).symm)
noncomputable def f_X8_candidatesIn (a0 : Nat) (x1 : Int) (M : Mem) : Option (Int) :=
  lpb (wh (fun x => s_X8_candidatesIn_4 a0 x1 M x.1 x.2) (0, 0)) (fun z_7 => some z_7) (fun q => some q)
set_option maxRecDepth 100000 in
set_option maxHeartbeats 4000000 in
theorem c_X8_candidatesIn {l : Launch} {G : Gx} (hG : GOK G) (hl : l.stackTraces = false) {a0 : Nat} (h0 : at_ G a0 11 0) (x1 : Int) (M : Mem) (r : Int) (h : f_X8_candidatesIn a0 x1 M = some r) : Cn l G mX8_candidatesIn 2 [vr G a0, vi x1] M (some (vi r)) M := by
  refine Cn_of2 (ls := [some (vr G a0), some (vi x1), none, none]) hG hl kX8_candidatesIn rfl (Nat.le_of_ble_eq_true rfl) rfl rfl rfl rfl rfl (fun X eG el hX => ?_)
  subst eG; subst el
  unfold f_X8_candidatesIn at h
  refine x_iconst hX dX8_candidatesIn_0 ?_
  refine x_istoren (ls' := [some (vr (xG X) a0), some (vi x1), some (vi 0), none]) hX dX8_candidatesIn_1 rfl rfl rfl ?_
  refine x_iconst hX dX8_candidatesIn_2 ?_
  refine x_istoren (ls' := [some (vr (xG X) a0), some (vi x1), some (vi 0), some (vi 0)]) hX dX8_candidatesIn_3 rfl rfl rfl ?_
  refine x_weak (ls' := [some (vr (xG X) a0), some (vi x1), some (vi 0), some (vi 0)]) [true, true, true, true] rfl ?_
  refine lp_use (x := (0, 0)) (P := fun x => V X 0 0 (Qn X (some (vi r)) M) 4 [some (vr (xG X) a0), some (vi x1), some (vi x.1), some (vi x.2)] [] M) (PE := fun z_7 => V X 0 0 (Qn X (some (vi r)) M) 46 [none, none, some (vi z_7), none] [] M) (PR := fun q => (Qn X (some (vi r)) M) = Qn X (some (vi q)) M) h (fun x o hh hP hE hR => ts_X8_candidatesIn_4 hX h0 x1 M x.1 x.2 o hh hP hE hR) (fun z_7 h => ?_) (fun q h => ?_)
  · show V X 0 0 (Qn X (some (vi r)) M) 46 [none, none, some (vi z_7), none] [] M
    refine x_iloadn hX dX8_candidatesIn_46 rfl ?_
    cases h
    exact x_iret hX dX8_candidatesIn_47 rfl
  · cases h; rfl
theorem dX8_seedValue_0 : decode cX8_seedValue 0 = .ok (.iload_n 2, 1) := by decide +kernel
theorem dX8_seedValue_1 : decode cX8_seedValue 1 = .ok (.iconst 1, 1) := by decide +kernel
theorem dX8_seedValue_2 : decode cX8_seedValue 2 = .ok (.if_icmp .ne 9, 3) := by decide +kernel
theorem dX8_seedValue_5 : decode cX8_seedValue 5 = .ok (.aload_n 0, 1) := by decide +kernel
theorem dX8_seedValue_6 : decode cX8_seedValue 6 = .ok (.iload_n 1, 1) := by decide +kernel
theorem dX8_seedValue_7 : decode cX8_seedValue 7 = .ok (.invokevirtual 50, 3) := by decide +kernel
theorem dX8_seedValue_10 : decode cX8_seedValue 10 = .ok (.ireturn, 1) := by decide +kernel
theorem dX8_seedValue_11 : decode cX8_seedValue 11 = .ok (.iload_n 2, 1) := by decide +kernel
theorem dX8_seedValue_12 : decode cX8_seedValue 12 = .ok (.iconst 2, 1) := by decide +kernel
theorem dX8_seedValue_13 : decode cX8_seedValue 13 = .ok (.if_icmp .ne 12, 3) := by decide +kernel
theorem dX8_seedValue_16 : decode cX8_seedValue 16 = .ok (.aload_n 0, 1) := by decide +kernel
theorem dX8_seedValue_17 : decode cX8_seedValue 17 = .ok (.iload_n 1, 1) := by decide +kernel
theorem dX8_seedValue_18 : decode cX8_seedValue 18 = .ok (.invokevirtual 56, 3) := by decide +kernel
theorem dX8_seedValue_21 : decode cX8_seedValue 21 = .ok (.invokestatic 59, 3) := by decide +kernel
theorem dX8_seedValue_24 : decode cX8_seedValue 24 = .ok (.ireturn, 1) := by decide +kernel
theorem dX8_seedValue_25 : decode cX8_seedValue 25 = .ok (.aload_n 0, 1) := by decide +kernel
theorem dX8_seedValue_26 : decode cX8_seedValue 26 = .ok (.getfield 39, 3) := by decide +kernel
theorem dX8_seedValue_29 : decode cX8_seedValue 29 = .ok (.getfield 64, 3) := by decide +kernel
theorem dX8_seedValue_32 : decode cX8_seedValue 32 = .ok (.iload_n 1, 1) := by decide +kernel
theorem dX8_seedValue_33 : decode cX8_seedValue 33 = .ok (.iaload, 1) := by decide +kernel
theorem dX8_seedValue_34 : decode cX8_seedValue 34 = .ok (.ineg, 1) := by decide +kernel
theorem dX8_seedValue_35 : decode cX8_seedValue 35 = .ok (.ireturn, 1) := by decide +kernel
noncomputable def f_X8_seedValue (a0 : Nat) (x1 : Int) (x2 : Int) (M : Mem) : Option (Int) :=
  (if w32 x2 = 1 then cl1 (f_X1_weightOf a0 x1 M) (fun r_1 => some r_1) else (if w32 x2 = 2 then cl1 (f_X1_aislesOf a0 x1 M) (fun r_3 => cl1 (f_J6_bitCount_0f7a4 r_3 M) (fun r_5 => some r_5)) else gi x1 16 (some (-(M (a0 + 9 + 1) (ix x1))))))
set_option maxRecDepth 100000 in
set_option maxHeartbeats 4000000 in
theorem c_X8_seedValue {l : Launch} {G : Gx} (hG : GOK G) (hl : l.stackTraces = false) {a0 : Nat} (h0 : at_ G a0 11 0) (x1 : Int) (x2 : Int) (M : Mem) (r : Int) (h : f_X8_seedValue a0 x1 x2 M = some r) : Cn l G mX8_seedValue 2 [vr G a0, vi x1, vi x2] M (some (vi r)) M := by
  refine Cn_of2 (ls := [some (vr G a0), some (vi x1), some (vi x2)]) hG hl kX8_seedValue rfl (Nat.le_of_ble_eq_true rfl) rfl rfl rfl rfl rfl (fun X eG el hX => ?_)
  subst eG; subst el
  unfold f_X8_seedValue at h
  refine x_iloadn hX dX8_seedValue_0 rfl ?_
  refine x_iconst hX dX8_seedValue_1 ?_
  refine x_icmp_ne (tgt := 11) hX dX8_seedValue_2 (by decide) rfl cw_1 (fun hc => ?_) (fun hc => ?_)
  · replace h := (if_pos hc).symm.trans h
    refine x_aloadn hX dX8_seedValue_5 rfl ?_
    refine x_iloadn hX dX8_seedValue_6 rfl ?_
    obtain ⟨r_1, er_1, h⟩ := cl1_of h
    refine x_callVi (t := 1) (As := [vi x1]) (rest := []) hX dX8_seedValue_7 (c_X1_weightOf (gk hX) (gl hX) h0 x1 M _ er_1) kX1_weightOf vX1_weightOf w_1229 h0 rfl rfl rfl rfl (Nat.le_of_ble_eq_true rfl) z0 ?_
    cases h
    exact x_iret hX dX8_seedValue_10 rfl
  · replace h := (if_neg hc).symm.trans h
    refine x_iloadn hX dX8_seedValue_11 rfl ?_
    refine x_iconst hX dX8_seedValue_12 ?_
    refine x_icmp_ne (tgt := 25) hX dX8_seedValue_13 (by decide) rfl cw_2 (fun hc => ?_) (fun hc => ?_)
    · replace h := (if_pos hc).symm.trans h
      refine x_aloadn hX dX8_seedValue_16 rfl ?_
      refine x_iloadn hX dX8_seedValue_17 rfl ?_
      obtain ⟨r_3, er_3, h⟩ := cl1_of h
      refine x_callVi (t := 1) (As := [vi x1]) (rest := []) hX dX8_seedValue_18 (c_X1_aislesOf (gk hX) (gl hX) h0 x1 M _ er_3) kX1_aislesOf vX1_aislesOf w_1236 h0 rfl rfl rfl rfl (Nat.le_of_ble_eq_true rfl) z0 ?_
      obtain ⟨r_5, er_5, h⟩ := cl1_of h
      refine x_callSi (As := [vi r_3]) (rest := []) hX dX8_seedValue_21 (c_J6_bitCount_0f7a4 (gk hX) (gl hX) r_3 M _ er_5) kJ6_bitCount_0f7a4 sJ6_bitCount_0f7a4 w_1237 rfl rfl rfl (Nat.le_of_ble_eq_true rfl) z0 ?_
      cases h
      exact x_iret hX dX8_seedValue_24 rfl
    · replace h := (if_neg hc).symm.trans h
      refine x_aloadn hX dX8_seedValue_25 rfl ?_
      refine x_getRj (j := a0 + 9) hX dX8_seedValue_26 fl_X8_39 rfl h0 rfl ?_
      refine x_getRj (j := a0 + 9 + 1) hX dX8_seedValue_29 fl_X8_64 rfl (fo_1_2 (gk hX) h0) rfl ?_
      refine x_iloadn hX dX8_seedValue_32 rfl ?_
      obtain ⟨b_7, h⟩ := gi_of h
      refine x_iald hX dX8_seedValue_33 (fo_5_2 (gk hX) (fo_1_2 (gk hX) h0)) b_7 rfl ?_
      refine x_ineg hX dX8_seedValue_34 ?_
      cases h
      exact x_iret hX dX8_seedValue_35 rfl
theorem dX9_fillKeys_0 : decode cX9_fillKeys 0 = .ok (.iconst 0, 1) := by decide +kernel
theorem dX9_fillKeys_1 : decode cX9_fillKeys 1 = .ok (.istore_n 3, 1) := by decide +kernel
theorem dX9_fillKeys_2 : decode cX9_fillKeys 2 = .ok (.iload_n 3, 1) := by decide +kernel
theorem dX9_fillKeys_3 : decode cX9_fillKeys 3 = .ok (.aload_n 1, 1) := by decide +kernel
theorem dX9_fillKeys_4 : decode cX9_fillKeys 4 = .ok (.getfield 48, 3) := by decide +kernel
theorem dX9_fillKeys_7 : decode cX9_fillKeys 7 = .ok (.getfield 54, 3) := by decide +kernel
theorem dX9_fillKeys_10 : decode cX9_fillKeys 10 = .ok (.if_icmp .ge 40, 3) := by decide +kernel
theorem dX9_fillKeys_13 : decode cX9_fillKeys 13 = .ok (.aload_n 0, 1) := by decide +kernel
theorem dX9_fillKeys_14 : decode cX9_fillKeys 14 = .ok (.getfield 18, 3) := by decide +kernel
theorem dX9_fillKeys_17 : decode cX9_fillKeys 17 = .ok (.iload_n 3, 1) := by decide +kernel
theorem dX9_fillKeys_18 : decode cX9_fillKeys 18 = .ok (.iload_n 2, 1) := by decide +kernel
theorem dX9_fillKeys_19 : decode cX9_fillKeys 19 = .ok (.iconst 1, 1) := by decide +kernel
theorem dX9_fillKeys_20 : decode cX9_fillKeys 20 = .ok (.if_icmp .ne 18, 3) := by decide +kernel
theorem dX9_fillKeys_23 : decode cX9_fillKeys 23 = .ok (.aload_n 0, 1) := by decide +kernel
theorem dX9_fillKeys_24 : decode cX9_fillKeys 24 = .ok (.getfield 12, 3) := by decide +kernel
theorem dX9_fillKeys_27 : decode cX9_fillKeys 27 = .ok (.aload_n 1, 1) := by decide +kernel
theorem dX9_fillKeys_28 : decode cX9_fillKeys 28 = .ok (.getfield 67, 3) := by decide +kernel
theorem dX9_fillKeys_31 : decode cX9_fillKeys 31 = .ok (.iload_n 3, 1) := by decide +kernel
theorem dX9_fillKeys_32 : decode cX9_fillKeys 32 = .ok (.invokevirtual 71, 3) := by decide +kernel
theorem dX9_fillKeys_35 : decode cX9_fillKeys 35 = .ok (.goto 8, 3) := by decide +kernel
theorem dX9_fillKeys_38 : decode cX9_fillKeys 38 = .ok (.aload_n 1, 1) := by decide +kernel
theorem dX9_fillKeys_39 : decode cX9_fillKeys 39 = .ok (.iload_n 3, 1) := by decide +kernel
theorem dX9_fillKeys_40 : decode cX9_fillKeys 40 = .ok (.invokevirtual 75, 3) := by decide +kernel
theorem dX9_fillKeys_43 : decode cX9_fillKeys 43 = .ok (.iastore, 1) := by decide +kernel
theorem dX9_fillKeys_44 : decode cX9_fillKeys 44 = .ok (.iinc 3 1, 3) := by decide +kernel
theorem dX9_fillKeys_47 : decode cX9_fillKeys 47 = .ok (.goto (-45), 3) := by decide +kernel
theorem dX9_fillKeys_50 : decode cX9_fillKeys 50 = .ok (.return_, 1) := by decide +kernel
noncomputable def j_X9_fillKeys_43_2 (a1 : Nat)  (x2 : Int) (x3 : Int) (y1 : Int) (y2 : Int) (M : Mem) : Option ((Int × Mem) ⊕ ((Mem) ⊕ (Mem))) :=
  gi y1 8 (bnd (upd2 M 135 (ix y1) y2) (fun M_3 => bnd (x3 + 1) (fun x3_5 => some (.inl (x3_5, M_3)))))
set_option maxRecDepth 100000 in
set_option maxHeartbeats 4000000 in
theorem tj_X9_fillKeys_43_2 {X : Cxt} (hX : Gd X RX9 cX9_fillKeys 4 (none) 2) {a1 : Nat} (h1 : at_ (xG X) a1 11 0)  (x2 : Int) (x3 : Int) (y1 : Int) (y2 : Int) (M : Mem) {Q : State → Prop} (o : (Int × Mem) ⊕ ((Mem) ⊕ (Mem))) (h : j_X9_fillKeys_43_2 a1 x2 x3 y1 y2 M = some o) (hP : ∀ y, o = .inl y → V X 0 0 Q 2 [some (vr (xG X) 97), some (vr (xG X) a1), some (vi x2), some (vi y.1)] [] y.2) (hE : ∀ z, o = .inr (.inl z) → V X 0 0 Q 50 [none, none, none, none] [] z) (hR : ∀ q, o = .inr (.inr q) → Q = Qn X none q) : V X 0 0 Q 43 [some (vr (xG X) 97), some (vr (xG X) a1), some (vi x2), some (vi x3)] [vi y2, vi y1, vr (xG X) 135] M := by
  unfold j_X9_fillKeys_43_2 at h
  obtain ⟨b_4, h⟩ := gi_of h
  obtain ⟨M_3, eM_3, h⟩ := bnd_of h
  refine x_iast hX dX9_fillKeys_43 (st135 (gk hX)) b_4 rfl (x_meq eM_3 ?_)
  obtain ⟨x3_5, ex3_5, h⟩ := bnd_of h
  refine x_iinc (ls' := [some (vr (xG X) 97), some (vr (xG X) a1), some (vi x2), some (vi x3_5)]) hX dX9_fillKeys_44 rfl rfl ex3_5 rfl ?_
  refine x_goto (tgt := 2) hX dX9_fillKeys_47 (by decide) ?_
  exact x_weak [true, true, true, true] rfl (hP (x3_5, M_3) (Option.some.inj h).symm)
noncomputable def s_X9_fillKeys_2 (a1 : Nat) (x2 : Int) (x3 : Int) (M : Mem) : Option ((Int × Mem) ⊕ ((Mem) ⊕ (Mem))) :=
  (if w32 x3 < w32 (M (a1 + 16) 0) then (if w32 x2 = 1 then cl1 (f_X7_workInAll 98 (a1 + 1) x3 M) (fun r_1 => j_X9_fillKeys_43_2 a1 x2 x3 x3 r_1 M) else cl1 (f_X1_earliestDue a1 x3 M) (fun r_6 => j_X9_fillKeys_43_2 a1 x2 x3 x3 r_6 M)) else some (.inr (.inl M)))
set_option maxRecDepth 100000 in
set_option maxHeartbeats 4000000 in
theorem ts_X9_fillKeys_2 {X : Cxt} (hX : Gd X RX9 cX9_fillKeys 4 (none) 2) {a1 : Nat} (h1 : at_ (xG X) a1 11 0) (x2 : Int) (x3 : Int) (M : Mem) {Q : State → Prop} (o : (Int × Mem) ⊕ ((Mem) ⊕ (Mem))) (h : s_X9_fillKeys_2 a1 x2 x3 M = some o) (hP : ∀ y, o = .inl y → V X 0 0 Q 2 [some (vr (xG X) 97), some (vr (xG X) a1), some (vi x2), some (vi y.1)] [] y.2) (hE : ∀ z, o = .inr (.inl z) → V X 0 0 Q 50 [none, none, none, none] [] z) (hR : ∀ q, o = .inr (.inr q) → Q = Qn X none q) : V X 0 0 Q 2 [some (vr (xG X) 97), some (vr (xG X) a1), some (vi x2), some (vi x3)] [] M := by
  unfold s_X9_fillKeys_2 at h
  refine x_iloadn hX dX9_fillKeys_2 rfl ?_
  refine x_aloadn hX dX9_fillKeys_3 rfl ?_
  refine x_getRj (j := a1 + 16) hX dX9_fillKeys_4 fl_X9_48 rfl h1 rfl ?_
  refine x_getI hX dX9_fillKeys_7 fl_X9_54 rfl (fo_1_3 (gk hX) h1) ?_
  refine x_icmp_ge (tgt := 50) hX dX9_fillKeys_10 (by decide) rfl rfl (fun hc => ?_) (fun hc => ?_)
  · replace h := (if_pos hc).symm.trans h
    refine x_aloadn hX dX9_fillKeys_13 rfl ?_
    refine x_getRj (j := 135) hX dX9_fillKeys_14 fl_X9_18 rfl (st97 (gk hX)) rfl ?_
    refine x_iloadn hX dX9_fillKeys_17 rfl ?_
    refine x_iloadn hX dX9_fillKeys_18 rfl ?_
    refine x_iconst hX dX9_fillKeys_19 ?_
    refine x_icmp_ne (tgt := 38) hX dX9_fillKeys_20 (by decide) rfl cw_1 (fun hc => ?_) (fun hc => ?_)
    · replace h := (if_pos hc).symm.trans h
      refine x_aloadn hX dX9_fillKeys_23 rfl ?_
      refine x_getRj (j := 98) hX dX9_fillKeys_24 fl_X9_12 rfl (st97 (gk hX)) rfl ?_
      refine x_aloadn hX dX9_fillKeys_27 rfl ?_
      refine x_getRj (j := a1 + 1) hX dX9_fillKeys_28 fl_X9_67 rfl h1 rfl ?_
      refine x_iloadn hX dX9_fillKeys_31 rfl ?_
      obtain ⟨r_1, er_1, h⟩ := cl1_of h
      refine x_callVi (t := 7) (As := [vr (xG X) (a1 + 1), vi x3]) (rest := [vi x3, vr (xG X) 135]) hX dX9_fillKeys_32 (c_X7_workInAll (gk hX) (gl hX) (st98 (gk hX)) (fo_1_0 (gk hX) h1) x3 M _ er_1) kX7_workInAll vX7_workInAll w_1360 (st98 (gk hX)) rfl rfl rfl rfl (Nat.le_of_ble_eq_true rfl) z0 ?_
      refine x_goto (tgt := 43) hX dX9_fillKeys_35 (by decide) ?_
      exact x_weak [true, true, true, true] rfl (tj_X9_fillKeys_43_2 hX h1 x2 x3 x3 r_1 M o h hP hE hR)
    · replace h := (if_neg hc).symm.trans h
      refine x_aloadn hX dX9_fillKeys_38 rfl ?_
      refine x_iloadn hX dX9_fillKeys_39 rfl ?_
      obtain ⟨r_6, er_6, h⟩ := cl1_of h
      refine x_callVi (t := 1) (As := [vi x3]) (rest := [vi x3, vr (xG X) 135]) hX dX9_fillKeys_40 (c_X1_earliestDue (gk hX) (gl hX) h1 x3 M _ er_6) kX1_earliestDue vX1_earliestDue w_1364 h1 rfl rfl rfl rfl (Nat.le_of_ble_eq_true rfl) z0 ?_
      exact x_weak [true, true, true, true] rfl (tj_X9_fillKeys_43_2 hX h1 x2 x3 x3 r_6 M o h hP hE hR)
  · replace h := (if_neg hc).symm.trans h
    exact x_weak [false, false, false, false] rfl (hE M (Option.some.inj h).symm)
noncomputable def f_X9_fillKeys (a1 : Nat) (x2 : Int) (M : Mem) : Option (Mem) :=
  lpb (wh (fun x => s_X9_fillKeys_2 a1 x2 x.1 x.2) (0, M)) (fun z_8 => some z_8) (fun q => some q)
set_option maxRecDepth 100000 in
set_option maxHeartbeats 4000000 in
theorem c_X9_fillKeys {l : Launch} {G : Gx} (hG : GOK G) (hl : l.stackTraces = false) {a1 : Nat} (h1 : at_ G a1 11 0) (x2 : Int) (M : Mem) (Mr : Mem) (h : f_X9_fillKeys a1 x2 M = some Mr) : Cn l G mX9_fillKeys 2 [vr G 97, vr G a1, vi x2] M none Mr := by
  refine Cn_of2 (ls := [some (vr G 97), some (vr G a1), some (vi x2), none]) hG hl kX9_fillKeys rfl (Nat.le_of_ble_eq_true rfl) rfl rfl rfl rfl rfl (fun X eG el hX => ?_)
  subst eG; subst el
  unfold f_X9_fillKeys at h
  refine x_iconst hX dX9_fillKeys_0 ?_
  refine x_istoren (ls' := [some (vr (xG X) 97), some (vr (xG X) a1), some (vi x2), some (vi 0)]) hX dX9_fillKeys_1 rfl rfl rfl ?_
  refine x_weak (ls' := [some (vr (xG X) 97), some (vr (xG X) a1), some (vi x2), some (vi 0)]) [true, true, true, true] rfl ?_
  refine lp_use (x := (0, M)) (P := fun x => V X 0 0 (Qn X none Mr) 2 [some (vr (xG X) 97), some (vr (xG X) a1), some (vi x2), some (vi x.1)] [] x.2) (PE := fun z_8 => V X 0 0 (Qn X none Mr) 50 [none, none, none, none] [] z_8) (PR := fun q => (Qn X none Mr) = Qn X none q) h (fun x o hh hP hE hR => ts_X9_fillKeys_2 hX h1 x2 x.1 x.2 o hh hP hE hR) (fun z_8 h => ?_) (fun q h => ?_)
  · show V X 0 0 (Qn X none Mr) 50 [none, none, none, none] [] z_8
    cases h
    exact x_vret hX dX9_fillKeys_50 rfl
  · cases h; rfl
theorem dX10_nextToken_0 : decode cX10_nextToken 0 = .ok (.aload_n 0, 1) := by decide +kernel
theorem dX10_nextToken_1 : decode cX10_nextToken 1 = .ok (.getfield 25, 3) := by decide +kernel
theorem dX10_nextToken_4 : decode cX10_nextToken 4 = .ok (.aload_n 0, 1) := by decide +kernel
theorem dX10_nextToken_5 : decode cX10_nextToken 5 = .ok (.getfield 19, 3) := by decide +kernel
theorem dX10_nextToken_8 : decode cX10_nextToken 8 = .ok (.if_icmp .ge 44, 3) := by decide +kernel
theorem dX10_nextToken_11 : decode cX10_nextToken 11 = .ok (.aload_n 0, 1) := by decide +kernel
theorem dX10_nextToken_12 : decode cX10_nextToken 12 = .ok (.getfield 9, 3) := by decide +kernel
theorem dX10_nextToken_15 : decode cX10_nextToken 15 = .ok (.aload_n 0, 1) := by decide +kernel
theorem dX10_nextToken_16 : decode cX10_nextToken 16 = .ok (.getfield 25, 3) := by decide +kernel
theorem dX10_nextToken_19 : decode cX10_nextToken 19 = .ok (.baload, 1) := by decide +kernel
theorem dX10_nextToken_20 : decode cX10_nextToken 20 = .ok (.bipush 32, 2) := by decide +kernel
theorem dX10_nextToken_22 : decode cX10_nextToken 22 = .ok (.if_icmp .eq 17, 3) := by decide +kernel
theorem dX10_nextToken_25 : decode cX10_nextToken 25 = .ok (.aload_n 0, 1) := by decide +kernel
theorem dX10_nextToken_26 : decode cX10_nextToken 26 = .ok (.getfield 9, 3) := by decide +kernel
theorem dX10_nextToken_29 : decode cX10_nextToken 29 = .ok (.aload_n 0, 1) := by decide +kernel
theorem dX10_nextToken_30 : decode cX10_nextToken 30 = .ok (.getfield 25, 3) := by decide +kernel
theorem dX10_nextToken_33 : decode cX10_nextToken 33 = .ok (.baload, 1) := by decide +kernel
theorem dX10_nextToken_34 : decode cX10_nextToken 34 = .ok (.bipush 10, 2) := by decide +kernel
theorem dX10_nextToken_36 : decode cX10_nextToken 36 = .ok (.if_icmp .ne 16, 3) := by decide +kernel
theorem dX10_nextToken_39 : decode cX10_nextToken 39 = .ok (.aload_n 0, 1) := by decide +kernel
theorem dX10_nextToken_40 : decode cX10_nextToken 40 = .ok (.dup, 1) := by decide +kernel
theorem dX10_nextToken_41 : decode cX10_nextToken 41 = .ok (.getfield 25, 3) := by decide +kernel
theorem dX10_nextToken_44 : decode cX10_nextToken 44 = .ok (.iconst 1, 1) := by decide +kernel
theorem dX10_nextToken_45 : decode cX10_nextToken 45 = .ok (.iadd, 1) := by decide +kernel
theorem dX10_nextToken_46 : decode cX10_nextToken 46 = .ok (.putfield 25, 3) := by decide +kernel
theorem dX10_nextToken_49 : decode cX10_nextToken 49 = .ok (.goto (-49), 3) := by decide +kernel
theorem dX10_nextToken_52 : decode cX10_nextToken 52 = .ok (.aload_n 0, 1) := by decide +kernel
theorem dX10_nextToken_53 : decode cX10_nextToken 53 = .ok (.aload_n 0, 1) := by decide +kernel
theorem dX10_nextToken_54 : decode cX10_nextToken 54 = .ok (.getfield 25, 3) := by decide +kernel
theorem dX10_nextToken_57 : decode cX10_nextToken 57 = .ok (.putfield 51, 3) := by decide +kernel
theorem dX10_nextToken_60 : decode cX10_nextToken 60 = .ok (.aload_n 0, 1) := by decide +kernel
theorem dX10_nextToken_61 : decode cX10_nextToken 61 = .ok (.getfield 51, 3) := by decide +kernel
theorem dX10_nextToken_64 : decode cX10_nextToken 64 = .ok (.aload_n 0, 1) := by decide +kernel
theorem dX10_nextToken_65 : decode cX10_nextToken 65 = .ok (.getfield 19, 3) := by decide +kernel
theorem dX10_nextToken_68 : decode cX10_nextToken 68 = .ok (.if_icmp .lt 11, 3) := by decide +kernel
theorem dX10_nextToken_71 : decode cX10_nextToken 71 = .ok (.aload_n 0, 1) := by decide +kernel
theorem dX10_nextToken_72 : decode cX10_nextToken 72 = .ok (.iconst 0, 1) := by decide +kernel
theorem dX10_nextToken_73 : decode cX10_nextToken 73 = .ok (.putfield 44, 3) := by decide +kernel
theorem dX10_nextToken_76 : decode cX10_nextToken 76 = .ok (.goto 116, 3) := by decide +kernel
theorem dX10_nextToken_79 : decode cX10_nextToken 79 = .ok (.aload_n 0, 1) := by decide +kernel
theorem dX10_nextToken_80 : decode cX10_nextToken 80 = .ok (.getfield 9, 3) := by decide +kernel
theorem dX10_nextToken_83 : decode cX10_nextToken 83 = .ok (.aload_n 0, 1) := by decide +kernel
theorem dX10_nextToken_84 : decode cX10_nextToken 84 = .ok (.getfield 51, 3) := by decide +kernel
theorem dX10_nextToken_87 : decode cX10_nextToken 87 = .ok (.baload, 1) := by decide +kernel
theorem dX10_nextToken_88 : decode cX10_nextToken 88 = .ok (.bipush 97, 2) := by decide +kernel
theorem dX10_nextToken_90 : decode cX10_nextToken 90 = .ok (.if_icmp .lt 29, 3) := by decide +kernel
theorem dX10_nextToken_93 : decode cX10_nextToken 93 = .ok (.aload_n 0, 1) := by decide +kernel
theorem dX10_nextToken_94 : decode cX10_nextToken 94 = .ok (.getfield 9, 3) := by decide +kernel
theorem dX10_nextToken_97 : decode cX10_nextToken 97 = .ok (.aload_n 0, 1) := by decide +kernel
theorem dX10_nextToken_98 : decode cX10_nextToken 98 = .ok (.getfield 51, 3) := by decide +kernel
theorem dX10_nextToken_101 : decode cX10_nextToken 101 = .ok (.baload, 1) := by decide +kernel
theorem dX10_nextToken_102 : decode cX10_nextToken 102 = .ok (.bipush 122, 2) := by decide +kernel
theorem dX10_nextToken_104 : decode cX10_nextToken 104 = .ok (.if_icmp .gt 15, 3) := by decide +kernel
theorem dX10_nextToken_107 : decode cX10_nextToken 107 = .ok (.aload_n 0, 1) := by decide +kernel
theorem dX10_nextToken_108 : decode cX10_nextToken 108 = .ok (.iconst 1, 1) := by decide +kernel
theorem dX10_nextToken_109 : decode cX10_nextToken 109 = .ok (.putfield 44, 3) := by decide +kernel
theorem dX10_nextToken_112 : decode cX10_nextToken 112 = .ok (.aload_n 0, 1) := by decide +kernel
theorem dX10_nextToken_113 : decode cX10_nextToken 113 = .ok (.invokevirtual 176, 3) := by decide +kernel
theorem dX10_nextToken_116 : decode cX10_nextToken 116 = .ok (.goto 76, 3) := by decide +kernel
theorem dX10_nextToken_119 : decode cX10_nextToken 119 = .ok (.aload_n 0, 1) := by decide +kernel
theorem dX10_nextToken_120 : decode cX10_nextToken 120 = .ok (.getfield 9, 3) := by decide +kernel
theorem dX10_nextToken_123 : decode cX10_nextToken 123 = .ok (.aload_n 0, 1) := by decide +kernel
theorem dX10_nextToken_124 : decode cX10_nextToken 124 = .ok (.getfield 51, 3) := by decide +kernel
theorem dX10_nextToken_127 : decode cX10_nextToken 127 = .ok (.baload, 1) := by decide +kernel
theorem dX10_nextToken_128 : decode cX10_nextToken 128 = .ok (.bipush 48, 2) := by decide +kernel
theorem dX10_nextToken_130 : decode cX10_nextToken 130 = .ok (.if_icmp .lt 29, 3) := by decide +kernel
theorem dX10_nextToken_133 : decode cX10_nextToken 133 = .ok (.aload_n 0, 1) := by decide +kernel
theorem dX10_nextToken_134 : decode cX10_nextToken 134 = .ok (.getfield 9, 3) := by decide +kernel
theorem dX10_nextToken_137 : decode cX10_nextToken 137 = .ok (.aload_n 0, 1) := by decide +kernel
theorem dX10_nextToken_138 : decode cX10_nextToken 138 = .ok (.getfield 51, 3) := by decide +kernel
theorem dX10_nextToken_141 : decode cX10_nextToken 141 = .ok (.baload, 1) := by decide +kernel
theorem dX10_nextToken_142 : decode cX10_nextToken 142 = .ok (.bipush 57, 2) := by decide +kernel
theorem dX10_nextToken_144 : decode cX10_nextToken 144 = .ok (.if_icmp .gt 15, 3) := by decide +kernel
theorem dX10_nextToken_147 : decode cX10_nextToken 147 = .ok (.aload_n 0, 1) := by decide +kernel
theorem dX10_nextToken_148 : decode cX10_nextToken 148 = .ok (.iconst 2, 1) := by decide +kernel
theorem dX10_nextToken_149 : decode cX10_nextToken 149 = .ok (.putfield 44, 3) := by decide +kernel
theorem dX10_nextToken_152 : decode cX10_nextToken 152 = .ok (.aload_n 0, 1) := by decide +kernel
theorem dX10_nextToken_153 : decode cX10_nextToken 153 = .ok (.invokevirtual 179, 3) := by decide +kernel
theorem dX10_nextToken_156 : decode cX10_nextToken 156 = .ok (.goto 36, 3) := by decide +kernel
theorem dX10_nextToken_159 : decode cX10_nextToken 159 = .ok (.aload_n 0, 1) := by decide +kernel
theorem dX10_nextToken_160 : decode cX10_nextToken 160 = .ok (.aload_n 0, 1) := by decide +kernel
theorem dX10_nextToken_161 : decode cX10_nextToken 161 = .ok (.getfield 9, 3) := by decide +kernel
theorem dX10_nextToken_164 : decode cX10_nextToken 164 = .ok (.aload_n 0, 1) := by decide +kernel
theorem dX10_nextToken_165 : decode cX10_nextToken 165 = .ok (.getfield 51, 3) := by decide +kernel
theorem dX10_nextToken_168 : decode cX10_nextToken 168 = .ok (.baload, 1) := by decide +kernel
theorem dX10_nextToken_169 : decode cX10_nextToken 169 = .ok (.bipush 59, 2) := by decide +kernel
theorem dX10_nextToken_171 : decode cX10_nextToken 171 = .ok (.if_icmp .ne 7, 3) := by decide +kernel
theorem dX10_nextToken_174 : decode cX10_nextToken 174 = .ok (.iconst 3, 1) := by decide +kernel
theorem dX10_nextToken_175 : decode cX10_nextToken 175 = .ok (.goto 4, 3) := by decide +kernel
theorem dX10_nextToken_178 : decode cX10_nextToken 178 = .ok (.iconst 4, 1) := by decide +kernel
theorem dX10_nextToken_179 : decode cX10_nextToken 179 = .ok (.putfield 44, 3) := by decide +kernel
theorem dX10_nextToken_182 : decode cX10_nextToken 182 = .ok (.aload_n 0, 1) := by decide +kernel
theorem dX10_nextToken_183 : decode cX10_nextToken 183 = .ok (.dup, 1) := by decide +kernel
theorem dX10_nextToken_184 : decode cX10_nextToken 184 = .ok (.getfield 25, 3) := by decide +kernel
theorem dX10_nextToken_187 : decode cX10_nextToken 187 = .ok (.iconst 1, 1) := by decide +kernel
theorem dX10_nextToken_188 : decode cX10_nextToken 188 = .ok (.iadd, 1) := by decide +kernel
theorem dX10_nextToken_189 : decode cX10_nextToken 189 = .ok (.putfield 25, 3) := by decide +kernel
theorem dX10_nextToken_192 : decode cX10_nextToken 192 = .ok (.return_, 1) := by decide +kernel
noncomputable def j_X10_nextToken_39_0   (M : Mem) : Option ((Mem) ⊕ ((Mem) ⊕ (Mem))) :=
  bnd (upd2 M 38 6 ((M 38 6) + 1)) (fun M_2 => some (.inl M_2))
set_option maxRecDepth 100000 in
set_option maxHeartbeats 4000000 in
theorem tj_X10_nextToken_39_0 {X : Cxt} (hX : Gd X RX10 cX10_nextToken 1 (none) 2)   (M : Mem) {Q : State → Prop} (o : (Mem) ⊕ ((Mem) ⊕ (Mem))) (h : j_X10_nextToken_39_0 M = some o) (hP : ∀ y, o = .inl y → V X 0 0 Q 0 [some (vr (xG X) 38)] [] y) (hE : ∀ z, o = .inr (.inl z) → V X 0 0 Q 52 [some (vr (xG X) 38)] [] z) (hR : ∀ q, o = .inr (.inr q) → Q = Qn X none q) : V X 0 0 Q 39 [some (vr (xG X) 38)] [] M := by
  unfold j_X10_nextToken_39_0 at h
  refine x_aloadn hX dX10_nextToken_39 rfl ?_
  refine x_dup hX dX10_nextToken_40 rfl ?_
  refine x_getI hX dX10_nextToken_41 fl_X10_25 rfl (st38 (gk hX)) ?_
  refine x_iconst hX dX10_nextToken_44 ?_
  refine x_iadd hX dX10_nextToken_45 ?_
  obtain ⟨M_2, eM_2, h⟩ := bnd_of h
  refine x_putI hX dX10_nextToken_46 fp_X10_25 rfl (st38 (gk hX)) (x_meq eM_2 ?_)
  refine x_goto (tgt := 0) hX dX10_nextToken_49 (by decide) ?_
  exact x_weak [true] rfl (hP M_2 (Option.some.inj h).symm)
noncomputable def s_X10_nextToken_0  (M : Mem) : Option ((Mem) ⊕ ((Mem) ⊕ (Mem))) :=
  (if w32 (M 38 6) < w32 (M 38 1) then gi (M 38 6) 600 ((if w32 (M 39 (ix (M 38 6))) = 32 then j_X10_nextToken_39_0 M else gi (M 38 6) 600 ((if w32 (M 39 (ix (M 38 6))) = 10 then j_X10_nextToken_39_0 M else some (.inr (.inl M)))))) else some (.inr (.inl M)))
set_option maxRecDepth 100000 in
set_option maxHeartbeats 4000000 in
theorem ts_X10_nextToken_0 {X : Cxt} (hX : Gd X RX10 cX10_nextToken 1 (none) 2)  (M : Mem) {Q : State → Prop} (o : (Mem) ⊕ ((Mem) ⊕ (Mem))) (h : s_X10_nextToken_0 M = some o) (hP : ∀ y, o = .inl y → V X 0 0 Q 0 [some (vr (xG X) 38)] [] y) (hE : ∀ z, o = .inr (.inl z) → V X 0 0 Q 52 [some (vr (xG X) 38)] [] z) (hR : ∀ q, o = .inr (.inr q) → Q = Qn X none q) : V X 0 0 Q 0 [some (vr (xG X) 38)] [] M := by
  unfold s_X10_nextToken_0 at h
  refine x_aloadn hX dX10_nextToken_0 rfl ?_
  refine x_getI hX dX10_nextToken_1 fl_X10_25 rfl (st38 (gk hX)) ?_
  refine x_aloadn hX dX10_nextToken_4 rfl ?_
  refine x_getI hX dX10_nextToken_5 fl_X10_19 rfl (st38 (gk hX)) ?_
  refine x_icmp_ge (tgt := 52) hX dX10_nextToken_8 (by decide) rfl rfl (fun hc => ?_) (fun hc => ?_)
  · replace h := (if_pos hc).symm.trans h
    refine x_aloadn hX dX10_nextToken_11 rfl ?_
    refine x_getRj (j := 39) hX dX10_nextToken_12 fl_X10_9 rfl (st38 (gk hX)) rfl ?_
    refine x_aloadn hX dX10_nextToken_15 rfl ?_
    refine x_getI hX dX10_nextToken_16 fl_X10_25 rfl (st38 (gk hX)) ?_
    obtain ⟨b_1, h⟩ := gi_of h
    refine x_bald hX dX10_nextToken_19 (st39 (gk hX)) b_1 rfl ?_
    refine x_bipush hX dX10_nextToken_20 bp_32 ?_
    refine x_icmp_eq (tgt := 39) hX dX10_nextToken_22 (by decide) rfl cw_32 (fun hc => ?_) (fun hc => ?_)
    · replace h := (if_pos hc).symm.trans h
      exact x_weak [true] rfl (tj_X10_nextToken_39_0 hX M o h hP hE hR)
    · replace h := (if_neg hc).symm.trans h
      refine x_aloadn hX dX10_nextToken_25 rfl ?_
      refine x_getRj (j := 39) hX dX10_nextToken_26 fl_X10_9 rfl (st38 (gk hX)) rfl ?_
      refine x_aloadn hX dX10_nextToken_29 rfl ?_
      refine x_getI hX dX10_nextToken_30 fl_X10_25 rfl (st38 (gk hX)) ?_
      obtain ⟨b_3, h⟩ := gi_of h
      refine x_bald hX dX10_nextToken_33 (st39 (gk hX)) b_3 rfl ?_
      refine x_bipush hX dX10_nextToken_34 bp_10 ?_
      refine x_icmp_ne (tgt := 52) hX dX10_nextToken_36 (by decide) rfl cw_10 (fun hc => ?_) (fun hc => ?_)
      · replace h := (if_pos hc).symm.trans h
        exact x_weak [true] rfl (tj_X10_nextToken_39_0 hX M o h hP hE hR)
      · replace h := (if_neg hc).symm.trans h
        exact x_weak [true] rfl (hE M (Option.some.inj h).symm)
  · replace h := (if_neg hc).symm.trans h
    exact x_weak [true] rfl (hE M (Option.some.inj h).symm)
noncomputable def j_X10_nextToken_179   (y1 : Int) (M : Mem) : Option (Mem) :=
  bnd (upd2 M 38 4 y1) (fun M_9 => bnd (upd2 M_9 38 6 ((M_9 38 6) + 1)) (fun M_10 => some M_10))
set_option maxRecDepth 100000 in
set_option maxHeartbeats 4000000 in
theorem tj_X10_nextToken_179 {X : Cxt} (hX : Gd X RX10 cX10_nextToken 1 (none) 2)   (y1 : Int) (M : Mem) (Mr : Mem) (h : j_X10_nextToken_179 y1 M = some Mr) : V X 0 0 (Qn X none Mr) 179 [some (vr (xG X) 38)] [vi y1, vr (xG X) 38] M := by
  unfold j_X10_nextToken_179 at h
  obtain ⟨M_9, eM_9, h⟩ := bnd_of h
  refine x_putI hX dX10_nextToken_179 fp_X10_44 rfl (st38 (gk hX)) (x_meq eM_9 ?_)
  refine x_aloadn hX dX10_nextToken_182 rfl ?_
  refine x_dup hX dX10_nextToken_183 rfl ?_
  refine x_getI hX dX10_nextToken_184 fl_X10_25 rfl (st38 (gk hX)) ?_
  refine x_iconst hX dX10_nextToken_187 ?_
  refine x_iadd hX dX10_nextToken_188 ?_
  obtain ⟨M_10, eM_10, h⟩ := bnd_of h
  refine x_putI hX dX10_nextToken_189 fp_X10_25 rfl (st38 (gk hX)) (x_meq eM_10 ?_)
  cases h
  exact x_vret hX dX10_nextToken_192 rfl
noncomputable def j_X10_nextToken_159   (M : Mem) : Option (Mem) :=
  gi (M 38 5) 600 ((if w32 (M 39 (ix (M 38 5))) = 59 then j_X10_nextToken_179 3 M else j_X10_nextToken_179 4 M))
set_option maxRecDepth 100000 in
set_option maxHeartbeats 4000000 in
theorem tj_X10_nextToken_159 {X : Cxt} (hX : Gd X RX10 cX10_nextToken 1 (none) 2)   (M : Mem) (Mr : Mem) (h : j_X10_nextToken_159 M = some Mr) : V X 0 0 (Qn X none Mr) 159 [some (vr (xG X) 38)] [] M := by
  unfold j_X10_nextToken_159 at h
  refine x_aloadn hX dX10_nextToken_159 rfl ?_
  refine x_aloadn hX dX10_nextToken_160 rfl ?_
  refine x_getRj (j := 39) hX dX10_nextToken_161 fl_X10_9 rfl (st38 (gk hX)) rfl ?_
  refine x_aloadn hX dX10_nextToken_164 rfl ?_
  refine x_getI hX dX10_nextToken_165 fl_X10_51 rfl (st38 (gk hX)) ?_
  obtain ⟨b_8, h⟩ := gi_of h
  refine x_bald hX dX10_nextToken_168 (st39 (gk hX)) b_8 rfl ?_
  refine x_bipush hX dX10_nextToken_169 bp_59 ?_
  refine x_icmp_ne (tgt := 178) hX dX10_nextToken_171 (by decide) rfl cw_59 (fun hc => ?_) (fun hc => ?_)
  · replace h := (if_pos hc).symm.trans h
    refine x_iconst hX dX10_nextToken_174 ?_
    refine x_goto (tgt := 179) hX dX10_nextToken_175 (by decide) ?_
    exact x_weak [true] rfl (tj_X10_nextToken_179 hX 3 M Mr h)
  · replace h := (if_neg hc).symm.trans h
    refine x_iconst hX dX10_nextToken_178 ?_
    exact x_weak [true] rfl (tj_X10_nextToken_179 hX 4 M Mr h)
noncomputable def j_X10_nextToken_119   (M : Mem) : Option (Mem) :=
  gi (M 38 5) 600 ((if w32 (M 39 (ix (M 38 5))) < 48 then j_X10_nextToken_159 M else gi (M 38 5) 600 ((if 57 < w32 (M 39 (ix (M 38 5))) then j_X10_nextToken_159 M else bnd (upd2 M 38 4 2) (fun M_12 => cl1 (f_X10_passNumber M_12) (fun M_14 => some M_14))))))
set_option maxRecDepth 100000 in
set_option maxHeartbeats 4000000 in
theorem tj_X10_nextToken_119 {X : Cxt} (hX : Gd X RX10 cX10_nextToken 1 (none) 2)   (M : Mem) (Mr : Mem) (h : j_X10_nextToken_119 M = some Mr) : V X 0 0 (Qn X none Mr) 119 [some (vr (xG X) 38)] [] M := by
  unfold j_X10_nextToken_119 at h
  refine x_aloadn hX dX10_nextToken_119 rfl ?_
  refine x_getRj (j := 39) hX dX10_nextToken_120 fl_X10_9 rfl (st38 (gk hX)) rfl ?_
  refine x_aloadn hX dX10_nextToken_123 rfl ?_
  refine x_getI hX dX10_nextToken_124 fl_X10_51 rfl (st38 (gk hX)) ?_
  obtain ⟨b_7, h⟩ := gi_of h
  refine x_bald hX dX10_nextToken_127 (st39 (gk hX)) b_7 rfl ?_
  refine x_bipush hX dX10_nextToken_128 bp_48 ?_
  refine x_icmp_lt (tgt := 159) hX dX10_nextToken_130 (by decide) rfl cw_48 (fun hc => ?_) (fun hc => ?_)
  · replace h := (if_pos hc).symm.trans h
    exact x_weak [true] rfl (tj_X10_nextToken_159 hX M Mr h)
  · replace h := (if_neg hc).symm.trans h
    refine x_aloadn hX dX10_nextToken_133 rfl ?_
    refine x_getRj (j := 39) hX dX10_nextToken_134 fl_X10_9 rfl (st38 (gk hX)) rfl ?_
    refine x_aloadn hX dX10_nextToken_137 rfl ?_
    refine x_getI hX dX10_nextToken_138 fl_X10_51 rfl (st38 (gk hX)) ?_
    obtain ⟨b_11, h⟩ := gi_of h
    refine x_bald hX dX10_nextToken_141 (st39 (gk hX)) b_11 rfl ?_
    refine x_bipush hX dX10_nextToken_142 bp_57 ?_
    refine x_icmp_gt (tgt := 159) hX dX10_nextToken_144 (by decide) rfl cw_57 (fun hc => ?_) (fun hc => ?_)
    · replace h := (if_pos hc).symm.trans h
      exact x_weak [true] rfl (tj_X10_nextToken_159 hX M Mr h)
    · replace h := (if_neg hc).symm.trans h
      refine x_aloadn hX dX10_nextToken_147 rfl ?_
      refine x_iconst hX dX10_nextToken_148 ?_
      obtain ⟨M_12, eM_12, h⟩ := bnd_of h
      refine x_putI hX dX10_nextToken_149 fp_X10_44 rfl (st38 (gk hX)) (x_meq eM_12 ?_)
      refine x_aloadn hX dX10_nextToken_152 rfl ?_
      obtain ⟨M_14, er_13, h⟩ := cl1_of h
      refine x_callVv (t := 9) (As := []) (rest := []) hX dX10_nextToken_153 (c_X10_passNumber (gk hX) (gl hX) M_12 _ er_13) kX10_passNumber vX10_passNumber w_791 (st38 (gk hX)) rfl rfl rfl rfl (Nat.le_of_ble_eq_true rfl) z0 ?_
      refine x_goto (tgt := 192) hX dX10_nextToken_156 (by decide) ?_
      cases h
      exact x_vret hX dX10_nextToken_192 rfl
noncomputable def j_X10_nextToken_52   (M : Mem) : Option (Mem) :=
  bnd (upd2 M 38 5 (M 38 6)) (fun M_5 => (if w32 (M_5 38 5) < w32 (M_5 38 1) then gi (M_5 38 5) 600 ((if w32 (M_5 39 (ix (M_5 38 5))) < 97 then j_X10_nextToken_119 M_5 else gi (M_5 38 5) 600 ((if 122 < w32 (M_5 39 (ix (M_5 38 5))) then j_X10_nextToken_119 M_5 else bnd (upd2 M_5 38 4 1) (fun M_16 => cl1 (f_X10_passWord M_16) (fun M_18 => some M_18)))))) else bnd (upd2 M_5 38 4 0) (fun M_19 => some M_19)))
set_option maxRecDepth 100000 in
set_option maxHeartbeats 4000000 in
theorem tj_X10_nextToken_52 {X : Cxt} (hX : Gd X RX10 cX10_nextToken 1 (none) 2)   (M : Mem) (Mr : Mem) (h : j_X10_nextToken_52 M = some Mr) : V X 0 0 (Qn X none Mr) 52 [some (vr (xG X) 38)] [] M := by
  unfold j_X10_nextToken_52 at h
  refine x_aloadn hX dX10_nextToken_52 rfl ?_
  refine x_aloadn hX dX10_nextToken_53 rfl ?_
  refine x_getI hX dX10_nextToken_54 fl_X10_25 rfl (st38 (gk hX)) ?_
  obtain ⟨M_5, eM_5, h⟩ := bnd_of h
  refine x_putI hX dX10_nextToken_57 fp_X10_51 rfl (st38 (gk hX)) (x_meq eM_5 ?_)
  refine x_aloadn hX dX10_nextToken_60 rfl ?_
  refine x_getI hX dX10_nextToken_61 fl_X10_51 rfl (st38 (gk hX)) ?_
  refine x_aloadn hX dX10_nextToken_64 rfl ?_
  refine x_getI hX dX10_nextToken_65 fl_X10_19 rfl (st38 (gk hX)) ?_
  refine x_icmp_lt (tgt := 79) hX dX10_nextToken_68 (by decide) rfl rfl (fun hc => ?_) (fun hc => ?_)
  · replace h := (if_pos hc).symm.trans h
    refine x_aloadn hX dX10_nextToken_79 rfl ?_
    refine x_getRj (j := 39) hX dX10_nextToken_80 fl_X10_9 rfl (st38 (gk hX)) rfl ?_
    refine x_aloadn hX dX10_nextToken_83 rfl ?_
    refine x_getI hX dX10_nextToken_84 fl_X10_51 rfl (st38 (gk hX)) ?_
    obtain ⟨b_6, h⟩ := gi_of h
    refine x_bald hX dX10_nextToken_87 (st39 (gk hX)) b_6 rfl ?_
    refine x_bipush hX dX10_nextToken_88 bp_97 ?_
    refine x_icmp_lt (tgt := 119) hX dX10_nextToken_90 (by decide) rfl cw_97 (fun hc => ?_) (fun hc => ?_)
    · replace h := (if_pos hc).symm.trans h
      exact x_weak [true] rfl (tj_X10_nextToken_119 hX M_5 Mr h)
    · replace h := (if_neg hc).symm.trans h
      refine x_aloadn hX dX10_nextToken_93 rfl ?_
      refine x_getRj (j := 39) hX dX10_nextToken_94 fl_X10_9 rfl (st38 (gk hX)) rfl ?_
      refine x_aloadn hX dX10_nextToken_97 rfl ?_
      refine x_getI hX dX10_nextToken_98 fl_X10_51 rfl (st38 (gk hX)) ?_
      obtain ⟨b_15, h⟩ := gi_of h
      refine x_bald hX dX10_nextToken_101 (st39 (gk hX)) b_15 rfl ?_
      refine x_bipush hX dX10_nextToken_102 bp_122 ?_
      refine x_icmp_gt (tgt := 119) hX dX10_nextToken_104 (by decide) rfl cw_122 (fun hc => ?_) (fun hc => ?_)
      · replace h := (if_pos hc).symm.trans h
        exact x_weak [true] rfl (tj_X10_nextToken_119 hX M_5 Mr h)
      · replace h := (if_neg hc).symm.trans h
        refine x_aloadn hX dX10_nextToken_107 rfl ?_
        refine x_iconst hX dX10_nextToken_108 ?_
        obtain ⟨M_16, eM_16, h⟩ := bnd_of h
        refine x_putI hX dX10_nextToken_109 fp_X10_44 rfl (st38 (gk hX)) (x_meq eM_16 ?_)
        refine x_aloadn hX dX10_nextToken_112 rfl ?_
        obtain ⟨M_18, er_17, h⟩ := cl1_of h
        refine x_callVv (t := 9) (As := []) (rest := []) hX dX10_nextToken_113 (c_X10_passWord (gk hX) (gl hX) M_16 _ er_17) kX10_passWord vX10_passWord w_787 (st38 (gk hX)) rfl rfl rfl rfl (Nat.le_of_ble_eq_true rfl) z0 ?_
        refine x_goto (tgt := 192) hX dX10_nextToken_116 (by decide) ?_
        cases h
        exact x_vret hX dX10_nextToken_192 rfl
  · replace h := (if_neg hc).symm.trans h
    refine x_aloadn hX dX10_nextToken_71 rfl ?_
    refine x_iconst hX dX10_nextToken_72 ?_
    obtain ⟨M_19, eM_19, h⟩ := bnd_of h
    refine x_putI hX dX10_nextToken_73 fp_X10_44 rfl (st38 (gk hX)) (x_meq eM_19 ?_)
    refine x_goto (tgt := 192) hX dX10_nextToken_76 (by decide) ?_
    cases h
    exact x_vret hX dX10_nextToken_192 rfl
noncomputable def f_X10_nextToken  (M : Mem) : Option (Mem) :=
  lpb (wh (fun x => s_X10_nextToken_0 x) M) (fun z_4 => j_X10_nextToken_52 z_4) (fun q => some q)
set_option maxRecDepth 100000 in
set_option maxHeartbeats 4000000 in
theorem c_X10_nextToken {l : Launch} {G : Gx} (hG : GOK G) (hl : l.stackTraces = false)  (M : Mem) (Mr : Mem) (h : f_X10_nextToken M = some Mr) : Cn l G mX10_nextToken 2 [vr G 38] M none Mr := by
  refine Cn_of2 (ls := [some (vr G 38)]) hG hl kX10_nextToken rfl (Nat.le_of_ble_eq_true rfl) rfl rfl rfl rfl rfl (fun X eG el hX => ?_)
  subst eG; subst el
  unfold f_X10_nextToken at h
  refine x_weak (ls' := [some (vr (xG X) 38)]) [true] rfl ?_
  refine lp_use (x := M) (P := fun x => V X 0 0 (Qn X none Mr) 0 [some (vr (xG X) 38)] [] x) (PE := fun z_4 => V X 0 0 (Qn X none Mr) 52 [some (vr (xG X) 38)] [] z_4) (PR := fun q => (Qn X none Mr) = Qn X none q) h (fun x o hh hP hE hR => ts_X10_nextToken_0 hX x o hh hP hE hR) (fun z_4 h => ?_) (fun q h => ?_)
  · show V X 0 0 (Qn X none Mr) 52 [some (vr (xG X) 38)] [] z_4
    exact x_weak [true] rfl (tj_X10_nextToken_52 hX z_4 Mr h)
  · cases h; rfl
theorem dX11_totalPicked_0 : decode cX11_totalPicked 0 = .ok (.aload_n 0, 1) := by decide +kernel
theorem dX11_totalPicked_1 : decode cX11_totalPicked 1 = .ok (.getfield 10, 3) := by decide +kernel
theorem dX11_totalPicked_4 : decode cX11_totalPicked 4 = .ok (.getfield 118, 3) := by decide +kernel
theorem dX11_totalPicked_7 : decode cX11_totalPicked 7 = .ok (.invokevirtual 316, 3) := by decide +kernel
theorem dX11_totalPicked_10 : decode cX11_totalPicked 10 = .ok (.ireturn, 1) := by decide +kernel
noncomputable def f_X11_totalPicked  (M : Mem) : Option (Int) :=
  cl1 (f_X5_pickedOfDone 10 M) (fun r_1 => some r_1)
set_option maxRecDepth 100000 in
set_option maxHeartbeats 4000000 in
theorem c_X11_totalPicked {l : Launch} {G : Gx} (hG : GOK G) (hl : l.stackTraces = false)  (M : Mem) (r : Int) (h : f_X11_totalPicked M = some r) : Cn l G mX11_totalPicked 3 [vr G 0] M (some (vi r)) M := by
  refine Cn_of2 (ls := [some (vr G 0)]) hG hl kX11_totalPicked rfl (Nat.le_of_ble_eq_true rfl) rfl rfl rfl rfl rfl (fun X eG el hX => ?_)
  subst eG; subst el
  unfold f_X11_totalPicked at h
  refine x_aloadn hX dX11_totalPicked_0 rfl ?_
  refine x_getRj (j := 1) hX dX11_totalPicked_1 fl_X11_10 rfl (st0 (gk hX)) rfl ?_
  refine x_getRj (j := 10) hX dX11_totalPicked_4 fl_X11_118 rfl (st1 (gk hX)) rfl ?_
  obtain ⟨r_1, er_1, h⟩ := cl1_of h
  refine x_callVi (t := 5) (As := []) (rest := []) hX dX11_totalPicked_7 (c_X5_pickedOfDone (gk hX) (gl hX) (st10 (gk hX)) M _ er_1) kX5_pickedOfDone vX5_pickedOfDone w_743 (st10 (gk hX)) rfl rfl rfl rfl (Nat.le_of_ble_eq_true rfl) z0 ?_
  cases h
  exact x_iret hX dX11_totalPicked_10 rfl
theorem dX0_takeOut_0 : decode cX0_takeOut 0 = .ok (.aload_n 0, 1) := by decide +kernel
theorem dX0_takeOut_1 : decode cX0_takeOut 1 = .ok (.iload_n 1, 1) := by decide +kernel
theorem dX0_takeOut_2 : decode cX0_takeOut 2 = .ok (.invokevirtual 19, 3) := by decide +kernel
theorem dX0_takeOut_5 : decode cX0_takeOut 5 = .ok (.istore_n 2, 1) := by decide +kernel
theorem dX0_takeOut_6 : decode cX0_takeOut 6 = .ok (.iload_n 2, 1) := by decide +kernel
theorem dX0_takeOut_7 : decode cX0_takeOut 7 = .ok (.iconst (-1), 1) := by decide +kernel
theorem dX0_takeOut_8 : decode cX0_takeOut 8 = .ok (.if_icmp .eq 9, 3) := by decide +kernel
theorem dX0_takeOut_11 : decode cX0_takeOut 11 = .ok (.aload_n 0, 1) := by decide +kernel
theorem dX0_takeOut_12 : decode cX0_takeOut 12 = .ok (.iload_n 2, 1) := by decide +kernel
theorem dX0_takeOut_13 : decode cX0_takeOut 13 = .ok (.iload_n 1, 1) := by decide +kernel
theorem dX0_takeOut_14 : decode cX0_takeOut 14 = .ok (.invokevirtual 23, 3) := by decide +kernel
theorem dX0_takeOut_17 : decode cX0_takeOut 17 = .ok (.return_, 1) := by decide +kernel
noncomputable def f_X0_takeOut (th : Nat) (x1 : Int) (M : Mem) : Option (Mem) :=
  cl1 (f_X0_batchWith th x1 M) (fun r_1 => (if w32 r_1 = (-1) then some M else cl1 (f_X0_takeFrom th r_1 x1 M) (fun M_4 => some M_4)))
set_option maxRecDepth 100000 in
set_option maxHeartbeats 4000000 in
theorem c_X0_takeOut {l : Launch} {G : Gx} (hG : GOK G) (hl : l.stackTraces = false) {th : Nat} (h0 : at_ G th 10 0) (x1 : Int) (M : Mem) (Mr : Mem) (h : f_X0_takeOut th x1 M = some Mr) : Cn l G mX0_takeOut 3 [vr G th, vi x1] M none Mr := by
  refine Cn_of2 (ls := [some (vr G th), some (vi x1), none]) hG hl kX0_takeOut rfl (Nat.le_of_ble_eq_true rfl) rfl rfl rfl rfl rfl (fun X eG el hX => ?_)
  subst eG; subst el
  unfold f_X0_takeOut at h
  refine x_aloadn hX dX0_takeOut_0 rfl ?_
  refine x_iloadn hX dX0_takeOut_1 rfl ?_
  obtain ⟨r_1, er_1, h⟩ := cl1_of h
  refine x_callVi (t := 0) (As := [vi x1]) (rest := []) hX dX0_takeOut_2 (c_X0_batchWith (gk hX) (gl hX) h0 x1 M _ er_1) kX0_batchWith vX0_batchWith w_1196 h0 rfl rfl rfl rfl (Nat.le_of_ble_eq_true rfl) z0 ?_
  refine x_istoren (ls' := [some (vr (xG X) th), some (vi x1), some (vi r_1)]) hX dX0_takeOut_5 rfl rfl rfl ?_
  refine x_iloadn hX dX0_takeOut_6 rfl ?_
  refine x_iconst hX dX0_takeOut_7 ?_
  refine x_icmp_eq (tgt := 17) hX dX0_takeOut_8 (by decide) rfl cw_m1 (fun hc => ?_) (fun hc => ?_)
  · replace h := (if_pos hc).symm.trans h
    cases h
    exact x_vret hX dX0_takeOut_17 rfl
  · replace h := (if_neg hc).symm.trans h
    refine x_aloadn hX dX0_takeOut_11 rfl ?_
    refine x_iloadn hX dX0_takeOut_12 rfl ?_
    refine x_iloadn hX dX0_takeOut_13 rfl ?_
    obtain ⟨M_4, er_3, h⟩ := cl1_of h
    refine x_callVv (t := 0) (As := [vi r_1, vi x1]) (rest := []) hX dX0_takeOut_14 (c_X0_takeFrom (gk hX) (gl hX) h0 r_1 x1 M _ er_3) kX0_takeFrom vX0_takeFrom w_1200 h0 rfl rfl rfl rfl (Nat.le_of_ble_eq_true rfl) z0 ?_
    cases h
    exact x_vret hX dX0_takeOut_17 rfl
theorem dX0_move_0 : decode cX0_move 0 = .ok (.aload_n 0, 1) := by decide +kernel
theorem dX0_move_1 : decode cX0_move 1 = .ok (.iload_n 1, 1) := by decide +kernel
theorem dX0_move_2 : decode cX0_move 2 = .ok (.invokevirtual 19, 3) := by decide +kernel
theorem dX0_move_5 : decode cX0_move 5 = .ok (.istore_n 3, 1) := by decide +kernel
theorem dX0_move_6 : decode cX0_move 6 = .ok (.aload_n 0, 1) := by decide +kernel
theorem dX0_move_7 : decode cX0_move 7 = .ok (.getfield 9, 3) := by decide +kernel
theorem dX0_move_10 : decode cX0_move 10 = .ok (.iload_n 2, 1) := by decide +kernel
theorem dX0_move_11 : decode cX0_move 11 = .ok (.dup2, 1) := by decide +kernel
theorem dX0_move_12 : decode cX0_move 12 = .ok (.iaload, 1) := by decide +kernel
theorem dX0_move_13 : decode cX0_move 13 = .ok (.iconst 1, 1) := by decide +kernel
theorem dX0_move_14 : decode cX0_move 14 = .ok (.iload_n 1, 1) := by decide +kernel
theorem dX0_move_15 : decode cX0_move 15 = .ok (.ishl, 1) := by decide +kernel
theorem dX0_move_16 : decode cX0_move 16 = .ok (.ior, 1) := by decide +kernel
theorem dX0_move_17 : decode cX0_move 17 = .ok (.iastore, 1) := by decide +kernel
theorem dX0_move_18 : decode cX0_move 18 = .ok (.iload_n 3, 1) := by decide +kernel
theorem dX0_move_19 : decode cX0_move 19 = .ok (.iconst (-1), 1) := by decide +kernel
theorem dX0_move_20 : decode cX0_move 20 = .ok (.if_icmp .eq 14, 3) := by decide +kernel
theorem dX0_move_23 : decode cX0_move 23 = .ok (.iload_n 3, 1) := by decide +kernel
theorem dX0_move_24 : decode cX0_move 24 = .ok (.iload_n 2, 1) := by decide +kernel
theorem dX0_move_25 : decode cX0_move 25 = .ok (.if_icmp .eq 9, 3) := by decide +kernel
theorem dX0_move_28 : decode cX0_move 28 = .ok (.aload_n 0, 1) := by decide +kernel
theorem dX0_move_29 : decode cX0_move 29 = .ok (.iload_n 3, 1) := by decide +kernel
theorem dX0_move_30 : decode cX0_move 30 = .ok (.iload_n 1, 1) := by decide +kernel
theorem dX0_move_31 : decode cX0_move 31 = .ok (.invokevirtual 23, 3) := by decide +kernel
theorem dX0_move_34 : decode cX0_move 34 = .ok (.return_, 1) := by decide +kernel
noncomputable def f_X0_move (th : Nat) (x1 : Int) (x2 : Int) (M : Mem) : Option (Mem) :=
  cl1 (f_X0_batchWith th x1 M) (fun r_1 => gi x2 8 (gi x2 8 (bnd (upd2 M (th + 1) (ix x2) (i_or (M (th + 1) (ix x2)) (i_shl 1 x1))) (fun M_4 => (if w32 r_1 = (-1) then some M_4 else (if w32 r_1 = w32 x2 then some M_4 else cl1 (f_X0_takeFrom th r_1 x1 M_4) (fun M_7 => some M_7)))))))
set_option maxRecDepth 100000 in
set_option maxHeartbeats 4000000 in
theorem c_X0_move {l : Launch} {G : Gx} (hG : GOK G) (hl : l.stackTraces = false) {th : Nat} (h0 : at_ G th 10 0) (x1 : Int) (x2 : Int) (M : Mem) (Mr : Mem) (h : f_X0_move th x1 x2 M = some Mr) : Cn l G mX0_move 3 [vr G th, vi x1, vi x2] M none Mr := by
  refine Cn_of2 (ls := [some (vr G th), some (vi x1), some (vi x2), none]) hG hl kX0_move rfl (Nat.le_of_ble_eq_true rfl) rfl rfl rfl rfl rfl (fun X eG el hX => ?_)
  subst eG; subst el
  unfold f_X0_move at h
  refine x_aloadn hX dX0_move_0 rfl ?_
  refine x_iloadn hX dX0_move_1 rfl ?_
  obtain ⟨r_1, er_1, h⟩ := cl1_of h
  refine x_callVi (t := 0) (As := [vi x1]) (rest := []) hX dX0_move_2 (c_X0_batchWith (gk hX) (gl hX) h0 x1 M _ er_1) kX0_batchWith vX0_batchWith w_1196 h0 rfl rfl rfl rfl (Nat.le_of_ble_eq_true rfl) z0 ?_
  refine x_istoren (ls' := [some (vr (xG X) th), some (vi x1), some (vi x2), some (vi r_1)]) hX dX0_move_5 rfl rfl rfl ?_
  refine x_aloadn hX dX0_move_6 rfl ?_
  refine x_getRj (j := th + 1) hX dX0_move_7 fl_X0_9 rfl h0 rfl ?_
  refine x_iloadn hX dX0_move_10 rfl ?_
  refine x_dup2 hX dX0_move_11 rfl rfl ?_
  obtain ⟨b_3, h⟩ := gi_of h
  refine x_iald hX dX0_move_12 (fo_0_1 (gk hX) h0) b_3 rfl ?_
  refine x_iconst hX dX0_move_13 ?_
  refine x_iloadn hX dX0_move_14 rfl ?_
  refine x_ishl hX dX0_move_15 ?_
  refine x_ior hX dX0_move_16 ?_
  obtain ⟨b_5, h⟩ := gi_of h
  obtain ⟨M_4, eM_4, h⟩ := bnd_of h
  refine x_iast hX dX0_move_17 (fo_0_1 (gk hX) h0) b_5 rfl (x_meq eM_4 ?_)
  refine x_iloadn hX dX0_move_18 rfl ?_
  refine x_iconst hX dX0_move_19 ?_
  refine x_icmp_eq (tgt := 34) hX dX0_move_20 (by decide) rfl cw_m1 (fun hc => ?_) (fun hc => ?_)
  · replace h := (if_pos hc).symm.trans h
    cases h
    exact x_vret hX dX0_move_34 rfl
  · replace h := (if_neg hc).symm.trans h
    refine x_iloadn hX dX0_move_23 rfl ?_
    refine x_iloadn hX dX0_move_24 rfl ?_
    refine x_icmp_eq (tgt := 34) hX dX0_move_25 (by decide) rfl rfl (fun hc => ?_) (fun hc => ?_)
    · replace h := (if_pos hc).symm.trans h
      cases h
      exact x_vret hX dX0_move_34 rfl
    · replace h := (if_neg hc).symm.trans h
      refine x_aloadn hX dX0_move_28 rfl ?_
      refine x_iloadn hX dX0_move_29 rfl ?_
      refine x_iloadn hX dX0_move_30 rfl ?_
      obtain ⟨M_7, er_6, h⟩ := cl1_of h
      refine x_callVv (t := 0) (As := [vi r_1, vi x1]) (rest := []) hX dX0_move_31 (c_X0_takeFrom (gk hX) (gl hX) h0 r_1 x1 M_4 _ er_6) kX0_takeFrom vX0_takeFrom w_1200 h0 rfl rfl rfl rfl (Nat.le_of_ble_eq_true rfl) z0 ?_
      cases h
      exact x_vret hX dX0_move_34 rfl
theorem dX3_reset_0 : decode cX3_reset 0 = .ok (.aload_n 0, 1) := by decide +kernel
theorem dX3_reset_1 : decode cX3_reset 1 = .ok (.iconst 4, 1) := by decide +kernel
theorem dX3_reset_2 : decode cX3_reset 2 = .ok (.bipush 10, 2) := by decide +kernel
theorem dX3_reset_4 : decode cX3_reset 4 = .ok (.iconst 2, 1) := by decide +kernel
theorem dX3_reset_5 : decode cX3_reset 5 = .ok (.invokevirtual 18, 3) := by decide +kernel
theorem dX3_reset_8 : decode cX3_reset 8 = .ok (.aload_n 0, 1) := by decide +kernel
theorem dX3_reset_9 : decode cX3_reset 9 = .ok (.iconst 0, 1) := by decide +kernel
theorem dX3_reset_10 : decode cX3_reset 10 = .ok (.putfield 22, 3) := by decide +kernel
theorem dX3_reset_13 : decode cX3_reset 13 = .ok (.aload_n 0, 1) := by decide +kernel
theorem dX3_reset_14 : decode cX3_reset 14 = .ok (.iconst 0, 1) := by decide +kernel
theorem dX3_reset_15 : decode cX3_reset 15 = .ok (.putfield 26, 3) := by decide +kernel
theorem dX3_reset_18 : decode cX3_reset 18 = .ok (.aload_n 0, 1) := by decide +kernel
theorem dX3_reset_19 : decode cX3_reset 19 = .ok (.iconst 1, 1) := by decide +kernel
theorem dX3_reset_20 : decode cX3_reset 20 = .ok (.putfield 29, 3) := by decide +kernel
theorem dX3_reset_23 : decode cX3_reset 23 = .ok (.aload_n 0, 1) := by decide +kernel
theorem dX3_reset_24 : decode cX3_reset 24 = .ok (.getfield 15, 3) := by decide +kernel
theorem dX3_reset_27 : decode cX3_reset 27 = .ok (.iconst 0, 1) := by decide +kernel
theorem dX3_reset_28 : decode cX3_reset 28 = .ok (.iconst 1, 1) := by decide +kernel
theorem dX3_reset_29 : decode cX3_reset 29 = .ok (.iastore, 1) := by decide +kernel
theorem dX3_reset_30 : decode cX3_reset 30 = .ok (.aload_n 0, 1) := by decide +kernel
theorem dX3_reset_31 : decode cX3_reset 31 = .ok (.getfield 15, 3) := by decide +kernel
theorem dX3_reset_34 : decode cX3_reset 34 = .ok (.iconst 1, 1) := by decide +kernel
theorem dX3_reset_35 : decode cX3_reset 35 = .ok (.iconst 1, 1) := by decide +kernel
theorem dX3_reset_36 : decode cX3_reset 36 = .ok (.iastore, 1) := by decide +kernel
theorem dX3_reset_37 : decode cX3_reset 37 = .ok (.return_, 1) := by decide +kernel
noncomputable def f_X3_reset (th : Nat) (M : Mem) : Option (Mem) :=
  cl1 (f_X3_build th 4 10 2 M) (fun M_2 => bnd (upd2 M_2 th 5 0) (fun M_3 => bnd (upd2 M_3 th 6 0) (fun M_4 => bnd (upd2 M_4 th 7 1) (fun M_5 => bnd (upd2 M_5 (th + 2) 0 1) (fun M_6 => bnd (upd2 M_6 (th + 2) 1 1) (fun M_7 => some M_7))))))
set_option maxRecDepth 100000 in
set_option maxHeartbeats 4000000 in
theorem c_X3_reset {l : Launch} {G : Gx} (hG : GOK G) (hl : l.stackTraces = false) {th : Nat} (h0 : at_ G th 13 0) (M : Mem) (Mr : Mem) (h : f_X3_reset th M = some Mr) : Cn l G mX3_reset 3 [vr G th] M none Mr := by
  refine Cn_of2 (ls := [some (vr G th)]) hG hl kX3_reset rfl (Nat.le_of_ble_eq_true rfl) rfl rfl rfl rfl rfl (fun X eG el hX => ?_)
  subst eG; subst el
  unfold f_X3_reset at h
  refine x_aloadn hX dX3_reset_0 rfl ?_
  refine x_iconst hX dX3_reset_1 ?_
  refine x_bipush hX dX3_reset_2 bp_10 ?_
  refine x_iconst hX dX3_reset_4 ?_
  obtain ⟨M_2, er_1, h⟩ := cl1_of h
  refine x_callVv (t := 3) (As := [vi 4, vi 10, vi 2]) (rest := []) hX dX3_reset_5 (c_X3_build (gk hX) (gl hX) h0 4 10 2 M _ er_1) kX3_build vX3_build w_356 h0 rfl rfl rfl rfl (Nat.le_of_ble_eq_true rfl) z0 ?_
  refine x_aloadn hX dX3_reset_8 rfl ?_
  refine x_iconst hX dX3_reset_9 ?_
  obtain ⟨M_3, eM_3, h⟩ := bnd_of h
  refine x_putI hX dX3_reset_10 fp_X3_22 rfl h0 (x_meq eM_3 ?_)
  refine x_aloadn hX dX3_reset_13 rfl ?_
  refine x_iconst hX dX3_reset_14 ?_
  obtain ⟨M_4, eM_4, h⟩ := bnd_of h
  refine x_putI hX dX3_reset_15 fp_X3_26 rfl h0 (x_meq eM_4 ?_)
  refine x_aloadn hX dX3_reset_18 rfl ?_
  refine x_iconst hX dX3_reset_19 ?_
  obtain ⟨M_5, eM_5, h⟩ := bnd_of h
  refine x_putI hX dX3_reset_20 fp_X3_29 rfl h0 (x_meq eM_5 ?_)
  refine x_aloadn hX dX3_reset_23 rfl ?_
  refine x_getRj (j := th + 2) hX dX3_reset_24 fl_X3_15 rfl h0 rfl ?_
  refine x_iconst hX dX3_reset_27 ?_
  refine x_iconst hX dX3_reset_28 ?_
  obtain ⟨M_6, eM_6, h⟩ := bnd_of h
  refine x_iast hX dX3_reset_29 (fo_3_8 (gk hX) h0) inc_0_2 ixc_0 (x_meq eM_6 ?_)
  refine x_aloadn hX dX3_reset_30 rfl ?_
  refine x_getRj (j := th + 2) hX dX3_reset_31 fl_X3_15 rfl h0 rfl ?_
  refine x_iconst hX dX3_reset_34 ?_
  refine x_iconst hX dX3_reset_35 ?_
  obtain ⟨M_7, eM_7, h⟩ := bnd_of h
  refine x_iast hX dX3_reset_36 (fo_3_8 (gk hX) h0) inc_1_2 ixc_1 (x_meq eM_7 ?_)
  cases h
  exact x_vret hX dX3_reset_37 rfl
theorem dX5_shortOfDone_0 : decode cX5_shortOfDone 0 = .ok (.iconst 0, 1) := by decide +kernel
theorem dX5_shortOfDone_1 : decode cX5_shortOfDone 1 = .ok (.istore_n 1, 1) := by decide +kernel
theorem dX5_shortOfDone_2 : decode cX5_shortOfDone 2 = .ok (.iconst 0, 1) := by decide +kernel
theorem dX5_shortOfDone_3 : decode cX5_shortOfDone 3 = .ok (.istore_n 2, 1) := by decide +kernel
theorem dX5_shortOfDone_4 : decode cX5_shortOfDone 4 = .ok (.iload_n 2, 1) := by decide +kernel
theorem dX5_shortOfDone_5 : decode cX5_shortOfDone 5 = .ok (.aload_n 0, 1) := by decide +kernel
theorem dX5_shortOfDone_6 : decode cX5_shortOfDone 6 = .ok (.getfield 30, 3) := by decide +kernel
theorem dX5_shortOfDone_9 : decode cX5_shortOfDone 9 = .ok (.if_icmp .ge 17, 3) := by decide +kernel
theorem dX5_shortOfDone_12 : decode cX5_shortOfDone 12 = .ok (.iload_n 1, 1) := by decide +kernel
theorem dX5_shortOfDone_13 : decode cX5_shortOfDone 13 = .ok (.aload_n 0, 1) := by decide +kernel
theorem dX5_shortOfDone_14 : decode cX5_shortOfDone 14 = .ok (.iload_n 2, 1) := by decide +kernel
theorem dX5_shortOfDone_15 : decode cX5_shortOfDone 15 = .ok (.invokevirtual 38, 3) := by decide +kernel
theorem dX5_shortOfDone_18 : decode cX5_shortOfDone 18 = .ok (.iadd, 1) := by decide +kernel
theorem dX5_shortOfDone_19 : decode cX5_shortOfDone 19 = .ok (.istore_n 1, 1) := by decide +kernel
theorem dX5_shortOfDone_20 : decode cX5_shortOfDone 20 = .ok (.iinc 2 1, 3) := by decide +kernel
theorem dX5_shortOfDone_23 : decode cX5_shortOfDone 23 = .ok (.goto (-19), 3) := by decide +kernel
theorem dX5_shortOfDone_26 : decode cX5_shortOfDone 26 = .ok (.iload_n 1, 1) := by decide +kernel
theorem dX5_shortOfDone_27 : decode cX5_shortOfDone 27 = .ok (.ireturn, 1) := by decide +kernel
noncomputable def s_X5_shortOfDone_4 (th : Nat) (M : Mem) (x1 : Int) (x2 : Int) : Option ((Int × Int) ⊕ ((Int) ⊕ (Int))) :=
  (if w32 x2 < w32 (M th 0) then cl1 (f_X5_shortInAll th x2 M) (fun r_1 => bnd (x1 + r_1) (fun x1_3 => bnd (x2 + 1) (fun x2_4 => some (.inl (x1_3, x2_4))))) else some (.inr (.inl x1)))
set_option maxRecDepth 100000 in
set_option maxHeartbeats 4000000 in
theorem ts_X5_shortOfDone_4 {X : Cxt} (hX : Gd X RX5 cX5_shortOfDone 3 (some .int) 3) {th : Nat} (h0 : at_ (xG X) th 15 0) (M : Mem) (x1 : Int) (x2 : Int) {Q : State → Prop} (o : (Int × Int) ⊕ ((Int) ⊕ (Int))) (h : s_X5_shortOfDone_4 th M x1 x2 = some o) (hP : ∀ y, o = .inl y → V X 0 0 Q 4 [some (vr (xG X) th), some (vi y.1), some (vi y.2)] [] M) (hE : ∀ z, o = .inr (.inl z) → V X 0 0 Q 26 [none, some (vi z), none] [] M) (hR : ∀ q, o = .inr (.inr q) → Q = Qn X (some (vi q)) M) : V X 0 0 Q 4 [some (vr (xG X) th), some (vi x1), some (vi x2)] [] M := by
  unfold s_X5_shortOfDone_4 at h
  refine x_iloadn hX dX5_shortOfDone_4 rfl ?_
  refine x_aloadn hX dX5_shortOfDone_5 rfl ?_
  refine x_getI hX dX5_shortOfDone_6 fl_X5_30 rfl h0 ?_
  refine x_icmp_ge (tgt := 26) hX dX5_shortOfDone_9 (by decide) rfl rfl (fun hc => ?_) (fun hc => ?_)
  · replace h := (if_pos hc).symm.trans h
    refine x_iloadn hX dX5_shortOfDone_12 rfl ?_
    refine x_aloadn hX dX5_shortOfDone_13 rfl ?_
    refine x_iloadn hX dX5_shortOfDone_14 rfl ?_
    obtain ⟨r_1, er_1, h⟩ := cl1_of h
    refine x_callVi (t := 5) (As := [vi x2]) (rest := [vi x1]) hX dX5_shortOfDone_15 (c_X5_shortInAll (gk hX) (gl hX) h0 x2 M _ er_1) kX5_shortInAll vX5_shortInAll w_755 h0 rfl rfl rfl rfl (Nat.le_of_ble_eq_true rfl) z0 ?_
    refine x_iadd hX dX5_shortOfDone_18 ?_
    obtain ⟨x1_3, ex1_3, h⟩ := bnd_of h
    refine x_istoren (ls' := [some (vr (xG X) th), some (vi x1_3), some (vi x2)]) hX dX5_shortOfDone_19 rfl ex1_3 rfl ?_
    obtain ⟨x2_4, ex2_4, h⟩ := bnd_of h
    refine x_iinc (ls' := [some (vr (xG X) th), some (vi x1_3), some (vi x2_4)]) hX dX5_shortOfDone_20 rfl rfl ex2_4 rfl ?_
    refine x_goto (tgt := 4) hX dX5_shortOfDone_23 (by decide) ?_
    exact x_weak [true, true, true] rfl (hP (x1_3, x2_4) (Option.some.inj h).symm)
  · replace h := (if_neg hc).symm.trans h
    exact x_weak [false, true, false] rfl (hE x1 (Option.some.inj h).symm)
noncomputable def f_X5_shortOfDone (th : Nat) (M : Mem) : Option (Int) :=
  lpb (wh (fun x => s_X5_shortOfDone_4 th M x.1 x.2) (0, 0)) (fun z_5 => some z_5) (fun q => some q)
set_option maxRecDepth 100000 in
set_option maxHeartbeats 4000000 in
theorem c_X5_shortOfDone {l : Launch} {G : Gx} (hG : GOK G) (hl : l.stackTraces = false) {th : Nat} (h0 : at_ G th 15 0) (M : Mem) (r : Int) (h : f_X5_shortOfDone th M = some r) : Cn l G mX5_shortOfDone 3 [vr G th] M (some (vi r)) M := by
  refine Cn_of2 (ls := [some (vr G th), none, none]) hG hl kX5_shortOfDone rfl (Nat.le_of_ble_eq_true rfl) rfl rfl rfl rfl rfl (fun X eG el hX => ?_)
  subst eG; subst el
  unfold f_X5_shortOfDone at h
  refine x_iconst hX dX5_shortOfDone_0 ?_
  refine x_istoren (ls' := [some (vr (xG X) th), some (vi 0), none]) hX dX5_shortOfDone_1 rfl rfl rfl ?_
  refine x_iconst hX dX5_shortOfDone_2 ?_
  refine x_istoren (ls' := [some (vr (xG X) th), some (vi 0), some (vi 0)]) hX dX5_shortOfDone_3 rfl rfl rfl ?_
  refine x_weak (ls' := [some (vr (xG X) th), some (vi 0), some (vi 0)]) [true, true, true] rfl ?_
  refine lp_use (x := (0, 0)) (P := fun x => V X 0 0 (Qn X (some (vi r)) M) 4 [some (vr (xG X) th), some (vi x.1), some (vi x.2)] [] M) (PE := fun z_5 => V X 0 0 (Qn X (some (vi r)) M) 26 [none, some (vi z_5), none] [] M) (PR := fun q => (Qn X (some (vi r)) M) = Qn X (some (vi q)) M) h (fun x o hh hP hE hR => ts_X5_shortOfDone_4 hX h0 M x.1 x.2 o hh hP hE hR) (fun z_5 h => ?_) (fun q h => ?_)
  · show V X 0 0 (Qn X (some (vi r)) M) 26 [none, some (vi z_5), none] [] M
    refine x_iloadn hX dX5_shortOfDone_26 rfl ?_
    cases h
    exact x_iret hX dX5_shortOfDone_27 rfl
  · cases h; rfl
theorem dX5_canBeRepeated_0 : decode cX5_canBeRepeated 0 = .ok (.aload_n 0, 1) := by decide +kernel
theorem dX5_canBeRepeated_1 : decode cX5_canBeRepeated 1 = .ok (.getfield 45, 3) := by decide +kernel
theorem dX5_canBeRepeated_4 : decode cX5_canBeRepeated 4 = .ok (.iload_n 1, 1) := by decide +kernel
theorem dX5_canBeRepeated_5 : decode cX5_canBeRepeated 5 = .ok (.ishr, 1) := by decide +kernel
theorem dX5_canBeRepeated_6 : decode cX5_canBeRepeated 6 = .ok (.iconst 1, 1) := by decide +kernel
theorem dX5_canBeRepeated_7 : decode cX5_canBeRepeated 7 = .ok (.iand, 1) := by decide +kernel
theorem dX5_canBeRepeated_8 : decode cX5_canBeRepeated 8 = .ok (.ifCond .ne 15, 3) := by decide +kernel
theorem dX5_canBeRepeated_11 : decode cX5_canBeRepeated 11 = .ok (.aload_n 0, 1) := by decide +kernel
theorem dX5_canBeRepeated_12 : decode cX5_canBeRepeated 12 = .ok (.iload_n 1, 1) := by decide +kernel
theorem dX5_canBeRepeated_13 : decode cX5_canBeRepeated 13 = .ok (.invokevirtual 38, 3) := by decide +kernel
theorem dX5_canBeRepeated_16 : decode cX5_canBeRepeated 16 = .ok (.ifCond .le 7, 3) := by decide +kernel
theorem dX5_canBeRepeated_19 : decode cX5_canBeRepeated 19 = .ok (.iconst 1, 1) := by decide +kernel
theorem dX5_canBeRepeated_20 : decode cX5_canBeRepeated 20 = .ok (.goto 4, 3) := by decide +kernel
theorem dX5_canBeRepeated_23 : decode cX5_canBeRepeated 23 = .ok (.iconst 0, 1) := by decide +kernel
theorem dX5_canBeRepeated_24 : decode cX5_canBeRepeated 24 = .ok (.ireturn, 1) := by decide +kernel
noncomputable def f_X5_canBeRepeated (th : Nat) (x1 : Int) (M : Mem) : Option (Int) :=
  (if w32 (i_and (i_shr (M th 1) x1) 1) = 0 then cl1 (f_X5_shortInAll th x1 M) (fun r_1 => (if 0 < w32 r_1 then some 1 else some 0)) else some 0)
set_option maxRecDepth 100000 in
set_option maxHeartbeats 4000000 in
theorem c_X5_canBeRepeated {l : Launch} {G : Gx} (hG : GOK G) (hl : l.stackTraces = false) {th : Nat} (h0 : at_ G th 15 0) (x1 : Int) (M : Mem) (r : Int) (h : f_X5_canBeRepeated th x1 M = some r) : Cn l G mX5_canBeRepeated 3 [vr G th, vi x1] M (some (vi r)) M := by
  refine Cn_of2 (ls := [some (vr G th), some (vi x1)]) hG hl kX5_canBeRepeated rfl (Nat.le_of_ble_eq_true rfl) rfl rfl rfl rfl rfl (fun X eG el hX => ?_)
  subst eG; subst el
  unfold f_X5_canBeRepeated at h
  refine x_aloadn hX dX5_canBeRepeated_0 rfl ?_
  refine x_getI hX dX5_canBeRepeated_1 fl_X5_45 rfl h0 ?_
  refine x_iloadn hX dX5_canBeRepeated_4 rfl ?_
  refine x_ishr hX dX5_canBeRepeated_5 ?_
  refine x_iconst hX dX5_canBeRepeated_6 ?_
  refine x_iand hX dX5_canBeRepeated_7 ?_
  refine x_if_ne (tgt := 23) hX dX5_canBeRepeated_8 (by decide) rfl (fun hc => ?_) (fun hc => ?_)
  · replace h := (if_pos hc).symm.trans h
    refine x_aloadn hX dX5_canBeRepeated_11 rfl ?_
    refine x_iloadn hX dX5_canBeRepeated_12 rfl ?_
    obtain ⟨r_1, er_1, h⟩ := cl1_of h
    refine x_callVi (t := 5) (As := [vi x1]) (rest := []) hX dX5_canBeRepeated_13 (c_X5_shortInAll (gk hX) (gl hX) h0 x1 M _ er_1) kX5_shortInAll vX5_shortInAll w_755 h0 rfl rfl rfl rfl (Nat.le_of_ble_eq_true rfl) z0 ?_
    refine x_if_le (tgt := 23) hX dX5_canBeRepeated_16 (by decide) rfl (fun hc => ?_) (fun hc => ?_)
    · replace h := (if_pos hc).symm.trans h
      refine x_iconst hX dX5_canBeRepeated_19 ?_
      refine x_goto (tgt := 24) hX dX5_canBeRepeated_20 (by decide) ?_
      cases h
      exact x_zret hX dX5_canBeRepeated_24 (Or.inr cw_1) rfl
    · replace h := (if_neg hc).symm.trans h
      refine x_iconst hX dX5_canBeRepeated_23 ?_
      cases h
      exact x_zret hX dX5_canBeRepeated_24 (Or.inl cw_0) rfl
  · replace h := (if_neg hc).symm.trans h
    refine x_iconst hX dX5_canBeRepeated_23 ?_
    cases h
    exact x_zret hX dX5_canBeRepeated_24 (Or.inl cw_0) rfl
theorem dX6_lengthIn_0 : decode cX6_lengthIn 0 = .ok (.aload_n 0, 1) := by decide +kernel
theorem dX6_lengthIn_1 : decode cX6_lengthIn 1 = .ok (.aload_n 1, 1) := by decide +kernel
theorem dX6_lengthIn_2 : decode cX6_lengthIn 2 = .ok (.iload_n 2, 1) := by decide +kernel
theorem dX6_lengthIn_3 : decode cX6_lengthIn 3 = .ok (.invokevirtual 103, 3) := by decide +kernel
theorem dX6_lengthIn_6 : decode cX6_lengthIn 6 = .ok (.aload_n 0, 1) := by decide +kernel
theorem dX6_lengthIn_7 : decode cX6_lengthIn 7 = .ok (.getfield 107, 3) := by decide +kernel
theorem dX6_lengthIn_10 : decode cX6_lengthIn 10 = .ok (.ifCond .ne 5, 3) := by decide +kernel
theorem dX6_lengthIn_13 : decode cX6_lengthIn 13 = .ok (.iconst 0, 1) := by decide +kernel
theorem dX6_lengthIn_14 : decode cX6_lengthIn 14 = .ok (.ireturn, 1) := by decide +kernel
theorem dX6_lengthIn_15 : decode cX6_lengthIn 15 = .ok (.aload_n 0, 1) := by decide +kernel
theorem dX6_lengthIn_16 : decode cX6_lengthIn 16 = .ok (.getfield 24, 3) := by decide +kernel
theorem dX6_lengthIn_19 : decode cX6_lengthIn 19 = .ok (.aload_n 0, 1) := by decide +kernel
theorem dX6_lengthIn_20 : decode cX6_lengthIn 20 = .ok (.getfield 107, 3) := by decide +kernel
theorem dX6_lengthIn_23 : decode cX6_lengthIn 23 = .ok (.iconst 1, 1) := by decide +kernel
theorem dX6_lengthIn_24 : decode cX6_lengthIn 24 = .ok (.isub, 1) := by decide +kernel
theorem dX6_lengthIn_25 : decode cX6_lengthIn 25 = .ok (.iaload, 1) := by decide +kernel
theorem dX6_lengthIn_26 : decode cX6_lengthIn 26 = .ok (.istore 4, 2) := by decide +kernel
theorem dX6_lengthIn_28 : decode cX6_lengthIn 28 = .ok (.iconst 2, 1) := by decide +kernel
theorem dX6_lengthIn_29 : decode cX6_lengthIn 29 = .ok (.aload_n 1, 1) := by decide +kernel
theorem dX6_lengthIn_30 : decode cX6_lengthIn 30 = .ok (.getfield 110, 3) := by decide +kernel
theorem dX6_lengthIn_33 : decode cX6_lengthIn 33 = .ok (.imul, 1) := by decide +kernel
theorem dX6_lengthIn_34 : decode cX6_lengthIn 34 = .ok (.iload 4, 2) := by decide +kernel
theorem dX6_lengthIn_36 : decode cX6_lengthIn 36 = .ok (.aload_n 1, 1) := by decide +kernel
theorem dX6_lengthIn_37 : decode cX6_lengthIn 37 = .ok (.getfield 97, 3) := by decide +kernel
theorem dX6_lengthIn_40 : decode cX6_lengthIn 40 = .ok (.iload_n 2, 1) := by decide +kernel
theorem dX6_lengthIn_41 : decode cX6_lengthIn 41 = .ok (.iaload, 1) := by decide +kernel
theorem dX6_lengthIn_42 : decode cX6_lengthIn 42 = .ok (.isub, 1) := by decide +kernel
theorem dX6_lengthIn_43 : decode cX6_lengthIn 43 = .ok (.imul, 1) := by decide +kernel
theorem dX6_lengthIn_44 : decode cX6_lengthIn 44 = .ok (.istore 5, 2) := by decide +kernel
theorem dX6_lengthIn_46 : decode cX6_lengthIn 46 = .ok (.iload_n 3, 1) := by decide +kernel
theorem dX6_lengthIn_47 : decode cX6_lengthIn 47 = .ok (.tableswitch 55 1 3 #[25, 33, 41], 25) := by decide +kernel
theorem dX6_lengthIn_72 : decode cX6_lengthIn 72 = .ok (.iload 5, 2) := by decide +kernel
theorem dX6_lengthIn_74 : decode cX6_lengthIn 74 = .ok (.aload_n 0, 1) := by decide +kernel
theorem dX6_lengthIn_75 : decode cX6_lengthIn 75 = .ok (.invokevirtual 113, 3) := by decide +kernel
theorem dX6_lengthIn_78 : decode cX6_lengthIn 78 = .ok (.iadd, 1) := by decide +kernel
theorem dX6_lengthIn_79 : decode cX6_lengthIn 79 = .ok (.ireturn, 1) := by decide +kernel
theorem dX6_lengthIn_80 : decode cX6_lengthIn 80 = .ok (.iload 5, 2) := by decide +kernel
theorem dX6_lengthIn_82 : decode cX6_lengthIn 82 = .ok (.aload_n 0, 1) := by decide +kernel
theorem dX6_lengthIn_83 : decode cX6_lengthIn 83 = .ok (.invokevirtual 117, 3) := by decide +kernel
theorem dX6_lengthIn_86 : decode cX6_lengthIn 86 = .ok (.iadd, 1) := by decide +kernel
theorem dX6_lengthIn_87 : decode cX6_lengthIn 87 = .ok (.ireturn, 1) := by decide +kernel
theorem dX6_lengthIn_88 : decode cX6_lengthIn 88 = .ok (.aload_n 0, 1) := by decide +kernel
theorem dX6_lengthIn_89 : decode cX6_lengthIn 89 = .ok (.invokevirtual 120, 3) := by decide +kernel
theorem dX6_lengthIn_92 : decode cX6_lengthIn 92 = .ok (.iload 5, 2) := by decide +kernel
theorem dX6_lengthIn_94 : decode cX6_lengthIn 94 = .ok (.aload_n 0, 1) := by decide +kernel
theorem dX6_lengthIn_95 : decode cX6_lengthIn 95 = .ok (.getfield 27, 3) := by decide +kernel
theorem dX6_lengthIn_98 : decode cX6_lengthIn 98 = .ok (.iconst 0, 1) := by decide +kernel
theorem dX6_lengthIn_99 : decode cX6_lengthIn 99 = .ok (.iaload, 1) := by decide +kernel
theorem dX6_lengthIn_100 : decode cX6_lengthIn 100 = .ok (.iadd, 1) := by decide +kernel
theorem dX6_lengthIn_101 : decode cX6_lengthIn 101 = .ok (.ireturn, 1) := by decide +kernel
theorem dX6_lengthIn_102 : decode cX6_lengthIn 102 = .ok (.iload 5, 2) := by decide +kernel
theorem dX6_lengthIn_104 : decode cX6_lengthIn 104 = .ok (.aload_n 0, 1) := by decide +kernel
theorem dX6_lengthIn_105 : decode cX6_lengthIn 105 = .ok (.invokevirtual 123, 3) := by decide +kernel
theorem dX6_lengthIn_108 : decode cX6_lengthIn 108 = .ok (.iadd, 1) := by decide +kernel
theorem dX6_lengthIn_109 : decode cX6_lengthIn 109 = .ok (.ireturn, 1) := by decide +kernel
noncomputable def f_X6_lengthIn (th : Nat) (a1 : Nat) (x2 : Int) (x3 : Int) (M : Mem) : Option (Int × Mem) :=
  cl1 (f_X6_findAisles th a1 x2 M) (fun M_2 => (if w32 (M_2 th 6) = 0 then some (0, M_2) else gi ((M_2 th 6) - 1) 6 (bnd (M_2 (th + 5) (ix ((M_2 th 6) - 1))) (fun x4_4 => gi x2 3 (bnd ((2 * (M_2 a1 2)) * (x4_4 - (M_2 (a1 + 1) (ix x2)))) (fun x5_6 => (if w32 x3 = 1 then cl1 (f_X6_sShapeCost th M_2) (fun r_7 => some ((x5_6 + r_7), M_2)) else (if w32 x3 = 2 then cl2 (f_X6_largestGapCost th M_2) (fun r_9 M_10 => some ((x5_6 + r_9), M_10)) else (if w32 x3 = 3 then cl1 (f_X6_planCombined th M_2) (fun M_12 => some ((x5_6 + (M_12 (th + 6) 0)), M_12)) else cl1 (f_X6_returnCost th M_2) (fun r_13 => some ((x5_6 + r_13), M_2)))))))))))
set_option maxRecDepth 100000 in
set_option maxHeartbeats 4000000 in
theorem c_X6_lengthIn {l : Launch} {G : Gx} (hG : GOK G) (hl : l.stackTraces = false) {th : Nat} (h0 : at_ G th 16 0) {a1 : Nat} (h1 : at_ G a1 13 0) (x2 : Int) (x3 : Int) (M : Mem) (r : Int) (Mr : Mem) (h : f_X6_lengthIn th a1 x2 x3 M = some (r, Mr)) : Cn l G mX6_lengthIn 3 [vr G th, vr G a1, vi x2, vi x3] M (some (vi r)) Mr := by
  refine Cn_of2 (ls := [some (vr G th), some (vr G a1), some (vi x2), some (vi x3), none, none]) hG hl kX6_lengthIn rfl (Nat.le_of_ble_eq_true rfl) rfl rfl rfl rfl rfl (fun X eG el hX => ?_)
  subst eG; subst el
  unfold f_X6_lengthIn at h
  refine x_aloadn hX dX6_lengthIn_0 rfl ?_
  refine x_aloadn hX dX6_lengthIn_1 rfl ?_
  refine x_iloadn hX dX6_lengthIn_2 rfl ?_
  obtain ⟨M_2, er_1, h⟩ := cl1_of h
  refine x_callVv (t := 6) (As := [vr (xG X) a1, vi x2]) (rest := []) hX dX6_lengthIn_3 (c_X6_findAisles (gk hX) (gl hX) h0 h1 x2 M _ er_1) kX6_findAisles vX6_findAisles w_630 h0 rfl rfl rfl rfl (Nat.le_of_ble_eq_true rfl) z0 ?_
  refine x_aloadn hX dX6_lengthIn_6 rfl ?_
  refine x_getI hX dX6_lengthIn_7 fl_X6_107 rfl h0 ?_
  refine x_if_ne (tgt := 15) hX dX6_lengthIn_10 (by decide) rfl (fun hc => ?_) (fun hc => ?_)
  · replace h := (if_pos hc).symm.trans h
    refine x_iconst hX dX6_lengthIn_13 ?_
    cases h
    exact x_iret hX dX6_lengthIn_14 rfl
  · replace h := (if_neg hc).symm.trans h
    refine x_aloadn hX dX6_lengthIn_15 rfl ?_
    refine x_getRj (j := th + 5) hX dX6_lengthIn_16 fl_X6_24 rfl h0 rfl ?_
    refine x_aloadn hX dX6_lengthIn_19 rfl ?_
    refine x_getI hX dX6_lengthIn_20 fl_X6_107 rfl h0 ?_
    refine x_iconst hX dX6_lengthIn_23 ?_
    refine x_isub hX dX6_lengthIn_24 ?_
    obtain ⟨b_3, h⟩ := gi_of h
    refine x_iald hX dX6_lengthIn_25 (fo_6_7 (gk hX) h0) b_3 rfl ?_
    obtain ⟨x4_4, ex4_4, h⟩ := bnd_of h
    refine x_istore (ls' := [some (vr (xG X) th), some (vr (xG X) a1), some (vi x2), some (vi x3), some (vi x4_4), none]) hX dX6_lengthIn_26 rfl ex4_4 rfl ?_
    refine x_iconst hX dX6_lengthIn_28 ?_
    refine x_aloadn hX dX6_lengthIn_29 rfl ?_
    refine x_getI hX dX6_lengthIn_30 fl_X6_110 rfl h1 ?_
    refine x_imul hX dX6_lengthIn_33 ?_
    refine x_iload hX dX6_lengthIn_34 rfl ?_
    refine x_aloadn hX dX6_lengthIn_36 rfl ?_
    refine x_getRj (j := a1 + 1) hX dX6_lengthIn_37 fl_X6_97 rfl h1 rfl ?_
    refine x_iloadn hX dX6_lengthIn_40 rfl ?_
    obtain ⟨b_5, h⟩ := gi_of h
    refine x_iald hX dX6_lengthIn_41 (fo_3_4 (gk hX) h1) b_5 rfl ?_
    refine x_isub hX dX6_lengthIn_42 ?_
    refine x_imul hX dX6_lengthIn_43 ?_
    obtain ⟨x5_6, ex5_6, h⟩ := bnd_of h
    refine x_istore (ls' := [some (vr (xG X) th), some (vr (xG X) a1), some (vi x2), some (vi x3), some (vi x4_4), some (vi x5_6)]) hX dX6_lengthIn_44 rfl ex5_6 rfl ?_
    refine x_iloadn hX dX6_lengthIn_46 rfl ?_
    by_cases hs1 : w32 x3 = 1
    · replace h := (if_pos hs1).symm.trans h
      refine x_tsI (tgt := 72) hX dX6_lengthIn_47 hs1 (by decide) (by decide) rfl (by decide) ?_
      refine x_iload hX dX6_lengthIn_72 rfl ?_
      refine x_aloadn hX dX6_lengthIn_74 rfl ?_
      obtain ⟨r_7, er_7, h⟩ := cl1_of h
      refine x_callVi (t := 6) (As := []) (rest := [vi x5_6]) hX dX6_lengthIn_75 (c_X6_sShapeCost (gk hX) (gl hX) h0 M_2 _ er_7) kX6_sShapeCost vX6_sShapeCost w_638 h0 rfl rfl rfl rfl (Nat.le_of_ble_eq_true rfl) z0 ?_
      refine x_iadd hX dX6_lengthIn_78 ?_
      cases h
      exact x_iret hX dX6_lengthIn_79 rfl
    · replace h := (if_neg hs1).symm.trans h
      by_cases hs2 : w32 x3 = 2
      · replace h := (if_pos hs2).symm.trans h
        refine x_tsI (tgt := 80) hX dX6_lengthIn_47 hs2 (by decide) (by decide) rfl (by decide) ?_
        refine x_iload hX dX6_lengthIn_80 rfl ?_
        refine x_aloadn hX dX6_lengthIn_82 rfl ?_
        obtain ⟨r_9, M_10, er_9, h⟩ := cl2_of h
        refine x_callVi (t := 6) (As := []) (rest := [vi x5_6]) hX dX6_lengthIn_83 (c_X6_largestGapCost (gk hX) (gl hX) h0 M_2 _ _ er_9) kX6_largestGapCost vX6_largestGapCost w_642 h0 rfl rfl rfl rfl (Nat.le_of_ble_eq_true rfl) z0 ?_
        refine x_iadd hX dX6_lengthIn_86 ?_
        cases h
        exact x_iret hX dX6_lengthIn_87 rfl
      · replace h := (if_neg hs2).symm.trans h
        by_cases hs3 : w32 x3 = 3
        · replace h := (if_pos hs3).symm.trans h
          refine x_tsI (tgt := 88) hX dX6_lengthIn_47 hs3 (by decide) (by decide) rfl (by decide) ?_
          refine x_aloadn hX dX6_lengthIn_88 rfl ?_
          obtain ⟨M_12, er_11, h⟩ := cl1_of h
          refine x_callVv (t := 6) (As := []) (rest := []) hX dX6_lengthIn_89 (c_X6_planCombined (gk hX) (gl hX) h0 M_2 _ er_11) kX6_planCombined vX6_planCombined w_654 h0 rfl rfl rfl rfl (Nat.le_of_ble_eq_true rfl) z0 ?_
          refine x_iload hX dX6_lengthIn_92 rfl ?_
          refine x_aloadn hX dX6_lengthIn_94 rfl ?_
          refine x_getRj (j := th + 6) hX dX6_lengthIn_95 fl_X6_27 rfl h0 rfl ?_
          refine x_iconst hX dX6_lengthIn_98 ?_
          refine x_iald hX dX6_lengthIn_99 (fo_6_10 (gk hX) h0) inc_0_7 ixc_0 ?_
          refine x_iadd hX dX6_lengthIn_100 ?_
          cases h
          exact x_iret hX dX6_lengthIn_101 rfl
        · replace h := (if_neg hs3).symm.trans h
          refine x_tsO (tgt := 102) hX dX6_lengthIn_47 (by omega) (by decide) ?_
          refine x_iload hX dX6_lengthIn_102 rfl ?_
          refine x_aloadn hX dX6_lengthIn_104 rfl ?_
          obtain ⟨r_13, er_13, h⟩ := cl1_of h
          refine x_callVi (t := 6) (As := []) (rest := [vi x5_6]) hX dX6_lengthIn_105 (c_X6_returnCost (gk hX) (gl hX) h0 M_2 _ er_13) kX6_returnCost vX6_returnCost w_646 h0 rfl rfl rfl rfl (Nat.le_of_ble_eq_true rfl) z0 ?_
          refine x_iadd hX dX6_lengthIn_108 ?_
          cases h
          exact x_iret hX dX6_lengthIn_109 rfl
theorem dX6_listReturn_0 : decode cX6_listReturn 0 = .ok (.iconst 0, 1) := by decide +kernel
theorem dX6_listReturn_1 : decode cX6_listReturn 1 = .ok (.istore_n 2, 1) := by decide +kernel
theorem dX6_listReturn_2 : decode cX6_listReturn 2 = .ok (.iload_n 2, 1) := by decide +kernel
theorem dX6_listReturn_3 : decode cX6_listReturn 3 = .ok (.aload_n 0, 1) := by decide +kernel
theorem dX6_listReturn_4 : decode cX6_listReturn 4 = .ok (.getfield 107, 3) := by decide +kernel
theorem dX6_listReturn_7 : decode cX6_listReturn 7 = .ok (.if_icmp .ge 22, 3) := by decide +kernel
theorem dX6_listReturn_10 : decode cX6_listReturn 10 = .ok (.aload_n 0, 1) := by decide +kernel
theorem dX6_listReturn_11 : decode cX6_listReturn 11 = .ok (.aload_n 1, 1) := by decide +kernel
theorem dX6_listReturn_12 : decode cX6_listReturn 12 = .ok (.aload_n 0, 1) := by decide +kernel
theorem dX6_listReturn_13 : decode cX6_listReturn 13 = .ok (.getfield 24, 3) := by decide +kernel
theorem dX6_listReturn_16 : decode cX6_listReturn 16 = .ok (.iload_n 2, 1) := by decide +kernel
theorem dX6_listReturn_17 : decode cX6_listReturn 17 = .ok (.iaload, 1) := by decide +kernel
theorem dX6_listReturn_18 : decode cX6_listReturn 18 = .ok (.bipush 20, 2) := by decide +kernel
theorem dX6_listReturn_20 : decode cX6_listReturn 20 = .ok (.invokevirtual 162, 3) := by decide +kernel
theorem dX6_listReturn_23 : decode cX6_listReturn 23 = .ok (.iinc 2 1, 3) := by decide +kernel
theorem dX6_listReturn_26 : decode cX6_listReturn 26 = .ok (.goto (-24), 3) := by decide +kernel
theorem dX6_listReturn_29 : decode cX6_listReturn 29 = .ok (.return_, 1) := by decide +kernel
noncomputable def s_X6_listReturn_2 (th : Nat) (a1 : Nat) (x2 : Int) (M : Mem) : Option ((Int × Mem) ⊕ ((Mem) ⊕ (Mem))) :=
  (if w32 x2 < w32 (M th 6) then gi x2 6 (cl1 (f_X6_visitUp th a1 (M (th + 5) (ix x2)) 20 M) (fun M_3 => bnd (x2 + 1) (fun x2_4 => some (.inl (x2_4, M_3))))) else some (.inr (.inl M)))
set_option maxRecDepth 100000 in
set_option maxHeartbeats 4000000 in
theorem ts_X6_listReturn_2 {X : Cxt} (hX : Gd X RX6 cX6_listReturn 3 (none) 3) {th : Nat} (h0 : at_ (xG X) th 16 0) {a1 : Nat} (h1 : at_ (xG X) a1 11 0) (x2 : Int) (M : Mem) {Q : State → Prop} (o : (Int × Mem) ⊕ ((Mem) ⊕ (Mem))) (h : s_X6_listReturn_2 th a1 x2 M = some o) (hP : ∀ y, o = .inl y → V X 0 0 Q 2 [some (vr (xG X) th), some (vr (xG X) a1), some (vi y.1)] [] y.2) (hE : ∀ z, o = .inr (.inl z) → V X 0 0 Q 29 [none, none, none] [] z) (hR : ∀ q, o = .inr (.inr q) → Q = Qn X none q) : V X 0 0 Q 2 [some (vr (xG X) th), some (vr (xG X) a1), some (vi x2)] [] M := by
  unfold s_X6_listReturn_2 at h
  refine x_iloadn hX dX6_listReturn_2 rfl ?_
  refine x_aloadn hX dX6_listReturn_3 rfl ?_
  refine x_getI hX dX6_listReturn_4 fl_X6_107 rfl h0 ?_
  refine x_icmp_ge (tgt := 29) hX dX6_listReturn_7 (by decide) rfl rfl (fun hc => ?_) (fun hc => ?_)
  · replace h := (if_pos hc).symm.trans h
    refine x_aloadn hX dX6_listReturn_10 rfl ?_
    refine x_aloadn hX dX6_listReturn_11 rfl ?_
    refine x_aloadn hX dX6_listReturn_12 rfl ?_
    refine x_getRj (j := th + 5) hX dX6_listReturn_13 fl_X6_24 rfl h0 rfl ?_
    refine x_iloadn hX dX6_listReturn_16 rfl ?_
    obtain ⟨b_1, h⟩ := gi_of h
    refine x_iald hX dX6_listReturn_17 (fo_6_7 (gk hX) h0) b_1 rfl ?_
    refine x_bipush hX dX6_listReturn_18 bp_20 ?_
    obtain ⟨M_3, er_2, h⟩ := cl1_of h
    refine x_callVv (t := 6) (As := [vr (xG X) a1, vi (M (th + 5) (ix x2)), vi 20]) (rest := []) hX dX6_listReturn_20 (c_X6_visitUp (gk hX) (gl hX) h0 h1 (M (th + 5) (ix x2)) 20 M _ er_2) kX6_visitUp vX6_visitUp w_1471 h0 rfl rfl rfl rfl (Nat.le_of_ble_eq_true rfl) z0 ?_
    obtain ⟨x2_4, ex2_4, h⟩ := bnd_of h
    refine x_iinc (ls' := [some (vr (xG X) th), some (vr (xG X) a1), some (vi x2_4)]) hX dX6_listReturn_23 rfl rfl ex2_4 rfl ?_
    refine x_goto (tgt := 2) hX dX6_listReturn_26 (by decide) ?_
    exact x_weak [true, true, true] rfl (hP (x2_4, M_3) (Option.some.inj h).symm)
  · replace h := (if_neg hc).symm.trans h
    exact x_weak [false, false, false] rfl (hE M (Option.some.inj h).symm)
noncomputable def f_X6_listReturn (th : Nat) (a1 : Nat) (M : Mem) : Option (Mem) :=
  lpb (wh (fun x => s_X6_listReturn_2 th a1 x.1 x.2) (0, M)) (fun z_5 => some z_5) (fun q => some q)
set_option maxRecDepth 100000 in
set_option maxHeartbeats 4000000 in
theorem c_X6_listReturn {l : Launch} {G : Gx} (hG : GOK G) (hl : l.stackTraces = false) {th : Nat} (h0 : at_ G th 16 0) {a1 : Nat} (h1 : at_ G a1 11 0) (M : Mem) (Mr : Mem) (h : f_X6_listReturn th a1 M = some Mr) : Cn l G mX6_listReturn 3 [vr G th, vr G a1] M none Mr := by
  refine Cn_of2 (ls := [some (vr G th), some (vr G a1), none]) hG hl kX6_listReturn rfl (Nat.le_of_ble_eq_true rfl) rfl rfl rfl rfl rfl (fun X eG el hX => ?_)
  subst eG; subst el
  unfold f_X6_listReturn at h
  refine x_iconst hX dX6_listReturn_0 ?_
  refine x_istoren (ls' := [some (vr (xG X) th), some (vr (xG X) a1), some (vi 0)]) hX dX6_listReturn_1 rfl rfl rfl ?_
  refine x_weak (ls' := [some (vr (xG X) th), some (vr (xG X) a1), some (vi 0)]) [true, true, true] rfl ?_
  refine lp_use (x := (0, M)) (P := fun x => V X 0 0 (Qn X none Mr) 2 [some (vr (xG X) th), some (vr (xG X) a1), some (vi x.1)] [] x.2) (PE := fun z_5 => V X 0 0 (Qn X none Mr) 29 [none, none, none] [] z_5) (PR := fun q => (Qn X none Mr) = Qn X none q) h (fun x o hh hP hE hR => ts_X6_listReturn_2 hX h0 h1 x.1 x.2 o hh hP hE hR) (fun z_5 h => ?_) (fun q h => ?_)
  · show V X 0 0 (Qn X none Mr) 29 [none, none, none] [] z_5
    cases h
    exact x_vret hX dX6_listReturn_29 rfl
  · cases h; rfl
theorem dX6_visitFrom_0 : decode cX6_visitFrom 0 = .ok (.iload_n 3, 1) := by decide +kernel
theorem dX6_visitFrom_1 : decode cX6_visitFrom 1 = .ok (.ifCond .ne 14, 3) := by decide +kernel
theorem dX6_visitFrom_4 : decode cX6_visitFrom 4 = .ok (.aload_n 0, 1) := by decide +kernel
theorem dX6_visitFrom_5 : decode cX6_visitFrom 5 = .ok (.aload_n 1, 1) := by decide +kernel
theorem dX6_visitFrom_6 : decode cX6_visitFrom 6 = .ok (.iload_n 2, 1) := by decide +kernel
theorem dX6_visitFrom_7 : decode cX6_visitFrom 7 = .ok (.bipush 20, 2) := by decide +kernel
theorem dX6_visitFrom_9 : decode cX6_visitFrom 9 = .ok (.invokevirtual 162, 3) := by decide +kernel
theorem dX6_visitFrom_12 : decode cX6_visitFrom 12 = .ok (.goto 10, 3) := by decide +kernel
theorem dX6_visitFrom_15 : decode cX6_visitFrom 15 = .ok (.aload_n 0, 1) := by decide +kernel
theorem dX6_visitFrom_16 : decode cX6_visitFrom 16 = .ok (.aload_n 1, 1) := by decide +kernel
theorem dX6_visitFrom_17 : decode cX6_visitFrom 17 = .ok (.iload_n 2, 1) := by decide +kernel
theorem dX6_visitFrom_18 : decode cX6_visitFrom 18 = .ok (.iconst 1, 1) := by decide +kernel
theorem dX6_visitFrom_19 : decode cX6_visitFrom 19 = .ok (.invokevirtual 169, 3) := by decide +kernel
theorem dX6_visitFrom_22 : decode cX6_visitFrom 22 = .ok (.return_, 1) := by decide +kernel
noncomputable def f_X6_visitFrom (th : Nat) (a1 : Nat) (x2 : Int) (x3 : Int) (M : Mem) : Option (Mem) :=
  (if w32 x3 = 0 then cl1 (f_X6_visitUp th a1 x2 20 M) (fun M_2 => some M_2) else cl1 (f_X6_visitDown th a1 x2 1 M) (fun M_4 => some M_4))
set_option maxRecDepth 100000 in
set_option maxHeartbeats 4000000 in
theorem c_X6_visitFrom {l : Launch} {G : Gx} (hG : GOK G) (hl : l.stackTraces = false) {th : Nat} (h0 : at_ G th 16 0) {a1 : Nat} (h1 : at_ G a1 11 0) (x2 : Int) (x3 : Int) (M : Mem) (Mr : Mem) (h : f_X6_visitFrom th a1 x2 x3 M = some Mr) : Cn l G mX6_visitFrom 3 [vr G th, vr G a1, vi x2, vi x3] M none Mr := by
  refine Cn_of2 (ls := [some (vr G th), some (vr G a1), some (vi x2), some (vi x3)]) hG hl kX6_visitFrom rfl (Nat.le_of_ble_eq_true rfl) rfl rfl rfl rfl rfl (fun X eG el hX => ?_)
  subst eG; subst el
  unfold f_X6_visitFrom at h
  refine x_iloadn hX dX6_visitFrom_0 rfl ?_
  refine x_if_ne (tgt := 15) hX dX6_visitFrom_1 (by decide) rfl (fun hc => ?_) (fun hc => ?_)
  · replace h := (if_pos hc).symm.trans h
    refine x_aloadn hX dX6_visitFrom_4 rfl ?_
    refine x_aloadn hX dX6_visitFrom_5 rfl ?_
    refine x_iloadn hX dX6_visitFrom_6 rfl ?_
    refine x_bipush hX dX6_visitFrom_7 bp_20 ?_
    obtain ⟨M_2, er_1, h⟩ := cl1_of h
    refine x_callVv (t := 6) (As := [vr (xG X) a1, vi x2, vi 20]) (rest := []) hX dX6_visitFrom_9 (c_X6_visitUp (gk hX) (gl hX) h0 h1 x2 20 M _ er_1) kX6_visitUp vX6_visitUp w_1471 h0 rfl rfl rfl rfl (Nat.le_of_ble_eq_true rfl) z0 ?_
    refine x_goto (tgt := 22) hX dX6_visitFrom_12 (by decide) ?_
    cases h
    exact x_vret hX dX6_visitFrom_22 rfl
  · replace h := (if_neg hc).symm.trans h
    refine x_aloadn hX dX6_visitFrom_15 rfl ?_
    refine x_aloadn hX dX6_visitFrom_16 rfl ?_
    refine x_iloadn hX dX6_visitFrom_17 rfl ?_
    refine x_iconst hX dX6_visitFrom_18 ?_
    obtain ⟨M_4, er_3, h⟩ := cl1_of h
    refine x_callVv (t := 6) (As := [vr (xG X) a1, vi x2, vi 1]) (rest := []) hX dX6_visitFrom_19 (c_X6_visitDown (gk hX) (gl hX) h0 h1 x2 1 M _ er_3) kX6_visitDown vX6_visitDown w_1479 h0 rfl rfl rfl rfl (Nat.le_of_ble_eq_true rfl) z0 ?_
    cases h
    exact x_vret hX dX6_visitFrom_22 rfl
theorem dX8_seedAmong_0 : decode cX8_seedAmong 0 = .ok (.iconst 0, 1) := by decide +kernel
theorem dX8_seedAmong_1 : decode cX8_seedAmong 1 = .ok (.istore_n 3, 1) := by decide +kernel
theorem dX8_seedAmong_2 : decode cX8_seedAmong 2 = .ok (.sipush (-10000), 3) := by decide +kernel
theorem dX8_seedAmong_5 : decode cX8_seedAmong 5 = .ok (.istore 4, 2) := by decide +kernel
theorem dX8_seedAmong_7 : decode cX8_seedAmong 7 = .ok (.iconst 0, 1) := by decide +kernel
theorem dX8_seedAmong_8 : decode cX8_seedAmong 8 = .ok (.istore 5, 2) := by decide +kernel
theorem dX8_seedAmong_10 : decode cX8_seedAmong 10 = .ok (.iload 5, 2) := by decide +kernel
theorem dX8_seedAmong_12 : decode cX8_seedAmong 12 = .ok (.aload_n 0, 1) := by decide +kernel
theorem dX8_seedAmong_13 : decode cX8_seedAmong 13 = .ok (.getfield 39, 3) := by decide +kernel
theorem dX8_seedAmong_16 : decode cX8_seedAmong 16 = .ok (.getfield 43, 3) := by decide +kernel
theorem dX8_seedAmong_19 : decode cX8_seedAmong 19 = .ok (.if_icmp .ge 42, 3) := by decide +kernel
theorem dX8_seedAmong_22 : decode cX8_seedAmong 22 = .ok (.iload_n 1, 1) := by decide +kernel
theorem dX8_seedAmong_23 : decode cX8_seedAmong 23 = .ok (.iload 5, 2) := by decide +kernel
theorem dX8_seedAmong_25 : decode cX8_seedAmong 25 = .ok (.ishr, 1) := by decide +kernel
theorem dX8_seedAmong_26 : decode cX8_seedAmong 26 = .ok (.iconst 1, 1) := by decide +kernel
theorem dX8_seedAmong_27 : decode cX8_seedAmong 27 = .ok (.iand, 1) := by decide +kernel
theorem dX8_seedAmong_28 : decode cX8_seedAmong 28 = .ok (.ifCond .eq 27, 3) := by decide +kernel
theorem dX8_seedAmong_31 : decode cX8_seedAmong 31 = .ok (.aload_n 0, 1) := by decide +kernel
theorem dX8_seedAmong_32 : decode cX8_seedAmong 32 = .ok (.iload 5, 2) := by decide +kernel
theorem dX8_seedAmong_34 : decode cX8_seedAmong 34 = .ok (.iload_n 2, 1) := by decide +kernel
theorem dX8_seedAmong_35 : decode cX8_seedAmong 35 = .ok (.invokestatic 53, 3) := by decide +kernel
theorem dX8_seedAmong_38 : decode cX8_seedAmong 38 = .ok (.iload 4, 2) := by decide +kernel
theorem dX8_seedAmong_40 : decode cX8_seedAmong 40 = .ok (.if_icmp .le 15, 3) := by decide +kernel
theorem dX8_seedAmong_43 : decode cX8_seedAmong 43 = .ok (.aload_n 0, 1) := by decide +kernel
theorem dX8_seedAmong_44 : decode cX8_seedAmong 44 = .ok (.iload 5, 2) := by decide +kernel
theorem dX8_seedAmong_46 : decode cX8_seedAmong 46 = .ok (.iload_n 2, 1) := by decide +kernel
theorem dX8_seedAmong_47 : decode cX8_seedAmong 47 = .ok (.invokestatic 53, 3) := by decide +kernel
theorem dX8_seedAmong_50 : decode cX8_seedAmong 50 = .ok (.istore 4, 2) := by decide +kernel
theorem dX8_seedAmong_52 : decode cX8_seedAmong 52 = .ok (.iload 5, 2) := by decide +kernel
theorem dX8_seedAmong_54 : decode cX8_seedAmong 54 = .ok (.istore_n 3, 1) := by decide +kernel
theorem dX8_seedAmong_55 : decode cX8_seedAmong 55 = .ok (.iinc 5 1, 3) := by decide +kernel
theorem dX8_seedAmong_58 : decode cX8_seedAmong 58 = .ok (.goto (-48), 3) := by decide +kernel
theorem dX8_seedAmong_61 : decode cX8_seedAmong 61 = .ok (.iload_n 3, 1) := by decide +kernel
theorem dX8_seedAmong_62 : decode cX8_seedAmong 62 = .ok (.ireturn, 1) := by decide +kernel
noncomputable def j_X8_seedAmong_55_10 (a0 : Nat)  (x1 : Int) (x2 : Int) (x3 : Int) (x4 : Int) (x5 : Int) (M : Mem) : Option ((Int × Int × Int) ⊕ ((Int) ⊕ (Int))) :=
  bnd (x5 + 1) (fun x5_1 => some (.inl (x3, x4, x5_1)))
set_option maxRecDepth 100000 in
set_option maxHeartbeats 4000000 in
theorem tj_X8_seedAmong_55_10 {X : Cxt} (hX : Gd X RX8 cX8_seedAmong 6 (some .int) 3) {a0 : Nat} (h0 : at_ (xG X) a0 11 0)  (x1 : Int) (x2 : Int) (x3 : Int) (x4 : Int) (x5 : Int) (M : Mem) {Q : State → Prop} (o : (Int × Int × Int) ⊕ ((Int) ⊕ (Int))) (h : j_X8_seedAmong_55_10 a0 x1 x2 x3 x4 x5 M = some o) (hP : ∀ y, o = .inl y → V X 0 0 Q 10 [some (vr (xG X) a0), some (vi x1), some (vi x2), some (vi y.1), some (vi y.2.1), some (vi y.2.2)] [] M) (hE : ∀ z, o = .inr (.inl z) → V X 0 0 Q 61 [none, none, none, some (vi z), none, none] [] M) (hR : ∀ q, o = .inr (.inr q) → Q = Qn X (some (vi q)) M) : V X 0 0 Q 55 [some (vr (xG X) a0), some (vi x1), some (vi x2), some (vi x3), some (vi x4), some (vi x5)] [] M := by
  unfold j_X8_seedAmong_55_10 at h
  obtain ⟨x5_1, ex5_1, h⟩ := bnd_of h
  refine x_iinc (ls' := [some (vr (xG X) a0), some (vi x1), some (vi x2), some (vi x3), some (vi x4), some (vi x5_1)]) hX dX8_seedAmong_55 rfl rfl ex5_1 rfl ?_
  refine x_goto (tgt := 10) hX dX8_seedAmong_58 (by decide) ?_
  exact x_weak [true, true, true, true, true, true] rfl (hP (x3, x4, x5_1) (Option.some.inj h).symm)
noncomputable def s_X8_seedAmong_10 (a0 : Nat) (x1 : Int) (x2 : Int) (M : Mem) (x3 : Int) (x4 : Int) (x5 : Int) : Option ((Int × Int × Int) ⊕ ((Int) ⊕ (Int))) :=
  (if w32 x5 < w32 (M (a0 + 9) 0) then (if w32 (i_and (i_shr x1 x5) 1) = 0 then j_X8_seedAmong_55_10 a0 x1 x2 x3 x4 x5 M else cl1 (f_X8_seedValue a0 x5 x2 M) (fun r_2 => (if w32 x4 < w32 r_2 then cl1 (f_X8_seedValue a0 x5 x2 M) (fun r_4 => j_X8_seedAmong_55_10 a0 x1 x2 x5 r_4 x5 M) else j_X8_seedAmong_55_10 a0 x1 x2 x3 x4 x5 M))) else some (.inr (.inl x3)))
set_option maxRecDepth 100000 in
set_option maxHeartbeats 4000000 in
theorem ts_X8_seedAmong_10 {X : Cxt} (hX : Gd X RX8 cX8_seedAmong 6 (some .int) 3) {a0 : Nat} (h0 : at_ (xG X) a0 11 0) (x1 : Int) (x2 : Int) (M : Mem) (x3 : Int) (x4 : Int) (x5 : Int) {Q : State → Prop} (o : (Int × Int × Int) ⊕ ((Int) ⊕ (Int))) (h : s_X8_seedAmong_10 a0 x1 x2 M x3 x4 x5 = some o) (hP : ∀ y, o = .inl y → V X 0 0 Q 10 [some (vr (xG X) a0), some (vi x1), some (vi x2), some (vi y.1), some (vi y.2.1), some (vi y.2.2)] [] M) (hE : ∀ z, o = .inr (.inl z) → V X 0 0 Q 61 [none, none, none, some (vi z), none, none] [] M) (hR : ∀ q, o = .inr (.inr q) → Q = Qn X (some (vi q)) M) : V X 0 0 Q 10 [some (vr (xG X) a0), some (vi x1), some (vi x2), some (vi x3), some (vi x4), some (vi x5)] [] M := by
  unfold s_X8_seedAmong_10 at h
  refine x_iload hX dX8_seedAmong_10 rfl ?_
  refine x_aloadn hX dX8_seedAmong_12 rfl ?_
  refine x_getRj (j := a0 + 9) hX dX8_seedAmong_13 fl_X8_39 rfl h0 rfl ?_
  refine x_getI hX dX8_seedAmong_16 fl_X8_43 rfl (fo_1_2 (gk hX) h0) ?_
  refine x_icmp_ge (tgt := 61) hX dX8_seedAmong_19 (by decide) rfl rfl (fun hc => ?_) (fun hc => ?_)
  · replace h := (if_pos hc).symm.trans h
    refine x_iloadn hX dX8_seedAmong_22 rfl ?_
    refine x_iload hX dX8_seedAmong_23 rfl ?_
    refine x_ishr hX dX8_seedAmong_25 ?_
    refine x_iconst hX dX8_seedAmong_26 ?_
    refine x_iand hX dX8_seedAmong_27 ?_
    refine x_if_eq (tgt := 55) hX dX8_seedAmong_28 (by decide) rfl (fun hc => ?_) (fun hc => ?_)
    · replace h := (if_pos hc).symm.trans h
      exact x_weak [true, true, true, true, true, true] rfl (tj_X8_seedAmong_55_10 hX h0 x1 x2 x3 x4 x5 M o h hP hE hR)
    · replace h := (if_neg hc).symm.trans h
      refine x_aloadn hX dX8_seedAmong_31 rfl ?_
      refine x_iload hX dX8_seedAmong_32 rfl ?_
      refine x_iloadn hX dX8_seedAmong_34 rfl ?_
      obtain ⟨r_2, er_2, h⟩ := cl1_of h
      refine x_callSi (As := [vr (xG X) a0, vi x5, vi x2]) (rest := []) hX dX8_seedAmong_35 (c_X8_seedValue (gk hX) (gl hX) h0 x5 x2 M _ er_2) kX8_seedValue sX8_seedValue w_1233 rfl rfl rfl (Nat.le_of_ble_eq_true rfl) z0 ?_
      refine x_iload hX dX8_seedAmong_38 rfl ?_
      refine x_icmp_le (tgt := 55) hX dX8_seedAmong_40 (by decide) rfl rfl (fun hc => ?_) (fun hc => ?_)
      · replace h := (if_pos hc).symm.trans h
        refine x_aloadn hX dX8_seedAmong_43 rfl ?_
        refine x_iload hX dX8_seedAmong_44 rfl ?_
        refine x_iloadn hX dX8_seedAmong_46 rfl ?_
        obtain ⟨r_4, er_4, h⟩ := cl1_of h
        refine x_callSi (As := [vr (xG X) a0, vi x5, vi x2]) (rest := []) hX dX8_seedAmong_47 (c_X8_seedValue (gk hX) (gl hX) h0 x5 x2 M _ er_4) kX8_seedValue sX8_seedValue w_1233 rfl rfl rfl (Nat.le_of_ble_eq_true rfl) z0 ?_
        refine x_istore (ls' := [some (vr (xG X) a0), some (vi x1), some (vi x2), some (vi x3), some (vi r_4), some (vi x5)]) hX dX8_seedAmong_50 rfl rfl rfl ?_
        refine x_iload hX dX8_seedAmong_52 rfl ?_
        refine x_istoren (ls' := [some (vr (xG X) a0), some (vi x1), some (vi x2), some (vi x5), some (vi r_4), some (vi x5)]) hX dX8_seedAmong_54 rfl rfl rfl ?_
        exact x_weak [true, true, true, true, true, true] rfl (tj_X8_seedAmong_55_10 hX h0 x1 x2 x5 r_4 x5 M o h hP hE hR)
      · replace h := (if_neg hc).symm.trans h
        exact x_weak [true, true, true, true, true, true] rfl (tj_X8_seedAmong_55_10 hX h0 x1 x2 x3 x4 x5 M o h hP hE hR)
  · replace h := (if_neg hc).symm.trans h
    exact x_weak [false, false, false, true, false, false] rfl (hE x3 (Option.some.inj h).symm)
noncomputable def f_X8_seedAmong (a0 : Nat) (x1 : Int) (x2 : Int) (M : Mem) : Option (Int) :=
  lpb (wh (fun x => s_X8_seedAmong_10 a0 x1 x2 M x.1 x.2.1 x.2.2) (0, (-10000), 0)) (fun z_6 => some z_6) (fun q => some q)
set_option maxRecDepth 100000 in
set_option maxHeartbeats 4000000 in
theorem c_X8_seedAmong {l : Launch} {G : Gx} (hG : GOK G) (hl : l.stackTraces = false) {a0 : Nat} (h0 : at_ G a0 11 0) (x1 : Int) (x2 : Int) (M : Mem) (r : Int) (h : f_X8_seedAmong a0 x1 x2 M = some r) : Cn l G mX8_seedAmong 3 [vr G a0, vi x1, vi x2] M (some (vi r)) M := by
  refine Cn_of2 (ls := [some (vr G a0), some (vi x1), some (vi x2), none, none, none]) hG hl kX8_seedAmong rfl (Nat.le_of_ble_eq_true rfl) rfl rfl rfl rfl rfl (fun X eG el hX => ?_)
  subst eG; subst el
  unfold f_X8_seedAmong at h
  refine x_iconst hX dX8_seedAmong_0 ?_
  refine x_istoren (ls' := [some (vr (xG X) a0), some (vi x1), some (vi x2), some (vi 0), none, none]) hX dX8_seedAmong_1 rfl rfl rfl ?_
  refine x_sipush hX dX8_seedAmong_2 sp_m10000 ?_
  refine x_istore (ls' := [some (vr (xG X) a0), some (vi x1), some (vi x2), some (vi 0), some (vi (-10000)), none]) hX dX8_seedAmong_5 rfl rfl rfl ?_
  refine x_iconst hX dX8_seedAmong_7 ?_
  refine x_istore (ls' := [some (vr (xG X) a0), some (vi x1), some (vi x2), some (vi 0), some (vi (-10000)), some (vi 0)]) hX dX8_seedAmong_8 rfl rfl rfl ?_
  refine x_weak (ls' := [some (vr (xG X) a0), some (vi x1), some (vi x2), some (vi 0), some (vi (-10000)), some (vi 0)]) [true, true, true, true, true, true] rfl ?_
  refine lp_use (x := (0, (-10000), 0)) (P := fun x => V X 0 0 (Qn X (some (vi r)) M) 10 [some (vr (xG X) a0), some (vi x1), some (vi x2), some (vi x.1), some (vi x.2.1), some (vi x.2.2)] [] M) (PE := fun z_6 => V X 0 0 (Qn X (some (vi r)) M) 61 [none, none, none, some (vi z_6), none, none] [] M) (PR := fun q => (Qn X (some (vi r)) M) = Qn X (some (vi q)) M) h (fun x o hh hP hE hR => ts_X8_seedAmong_10 hX h0 x1 x2 M x.1 x.2.1 x.2.2 o hh hP hE hR) (fun z_6 h => ?_) (fun q h => ?_)
  · show V X 0 0 (Qn X (some (vi r)) M) 61 [none, none, none, some (vi z_6), none, none] [] M
    refine x_iloadn hX dX8_seedAmong_61 rfl ?_
    cases h
    exact x_iret hX dX8_seedAmong_62 rfl
  · cases h; rfl
