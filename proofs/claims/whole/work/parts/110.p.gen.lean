-- written by wip/gen/emit.py: X9_search, X9_arrange, X11_sortBatches
set_option maxRecDepth 100000 in
set_option maxHeartbeats 4000000 in
theorem tj_X9_search_133_42 {X : Cxt} {lw : Nat} (hX : Gd X RX9 cX9_search 7 (none) lw) (hs : SOK (xG X)) {lvr : Nat} {rec : Nat → Int → Int → Int → Mem → Option (Mem)} (hrec : ∀ {a1 : Nat} (h1 : at_ (xG X) a1 11 0) (x2 : Int) (x3 : Int) (x4 : Int) (M : Mem) (Mr : Mem), rec a1 x2 x3 x4 M = some Mr → Cn (xl X) (xG X) mX9_search lvr [vr (xG X) 97, vr (xG X) a1, vi x2, vi x3, vi x4] M none Mr) (hlv : Nat.ble (lvr + 1) lw = true) (hl0 : 10 ≤ lw) {a1 : Nat} (h1 : at_ (xG X) a1 11 0)  (x2 : Int) (x3 : Int) (x4 : Int) (x5 : Int) (M : Mem) {Q : State → Prop} (o : (Int × Mem) ⊕ ((Mem) ⊕ (Mem))) (h : j_X9_search_133_42 rec a1 x2 x3 x4 x5 M = some o) (hP : ∀ y, o = .inl y → V X 0 0 Q 42 [some (vr (xG X) 97), some (vr (xG X) a1), some (vi x2), some (vi x3), some (vi x4), some (vi y.1), none] [] y.2) (hE : ∀ z, o = .inr (.inl z) → V X 0 0 Q 139 [none, none, none, none, none, none, none] [] z) (hR : ∀ q, o = .inr (.inr q) → Q = Qn X none q) : V X 0 0 Q 133 [some (vr (xG X) 97), some (vr (xG X) a1), some (vi x2), some (vi x3), some (vi x4), some (vi x5), none] [] M := by
  unfold j_X9_search_133_42 at h
  obtain ⟨x5_12, ex5_12, h⟩ := bnd_of h
  refine x_iinc (ls' := [some (vr (xG X) 97), some (vr (xG X) a1), some (vi x2), some (vi x3), some (vi x4), some (vi x5_12), none]) hX dX9_search_133 rfl rfl ex5_12 rfl ?_
  refine x_goto (tgt := 42) hX dX9_search_136 (by decide) ?_
  exact x_weak [true, true, true, true, true, true, false] rfl (hP (x5_12, M) (Option.some.inj h).symm)
set_option maxRecDepth 100000 in
set_option maxHeartbeats 4000000 in
theorem ts_X9_search_42 {X : Cxt} {lw : Nat} (hX : Gd X RX9 cX9_search 7 (none) lw) (hs : SOK (xG X)) {lvr : Nat} {rec : Nat → Int → Int → Int → Mem → Option (Mem)} (hrec : ∀ {a1 : Nat} (h1 : at_ (xG X) a1 11 0) (x2 : Int) (x3 : Int) (x4 : Int) (M : Mem) (Mr : Mem), rec a1 x2 x3 x4 M = some Mr → Cn (xl X) (xG X) mX9_search lvr [vr (xG X) 97, vr (xG X) a1, vi x2, vi x3, vi x4] M none Mr) (hlv : Nat.ble (lvr + 1) lw = true) (hl0 : 10 ≤ lw) {a1 : Nat} (h1 : at_ (xG X) a1 11 0) (x2 : Int) (x3 : Int) (x4 : Int) (x5 : Int) (M : Mem) {Q : State → Prop} (o : (Int × Mem) ⊕ ((Mem) ⊕ (Mem))) (h : s_X9_search_42 rec a1 x2 x3 x4 x5 M = some o) (hP : ∀ y, o = .inl y → V X 0 0 Q 42 [some (vr (xG X) 97), some (vr (xG X) a1), some (vi x2), some (vi x3), some (vi x4), some (vi y.1), none] [] y.2) (hE : ∀ z, o = .inr (.inl z) → V X 0 0 Q 139 [none, none, none, none, none, none, none] [] z) (hR : ∀ q, o = .inr (.inr q) → Q = Qn X none q) : V X 0 0 Q 42 [some (vr (xG X) 97), some (vr (xG X) a1), some (vi x2), some (vi x3), some (vi x4), some (vi x5), none] [] M := by
  unfold s_X9_search_42 at h
  refine x_iload hX dX9_search_42 rfl ?_
  refine x_aloadn hX dX9_search_44 rfl ?_
  refine x_getRj (j := a1 + 16) hX dX9_search_45 fl_X9_48 rfl h1 rfl ?_
  refine x_getI hX dX9_search_48 fl_X9_54 rfl (fo_1_3 (gk hX) h1) ?_
  refine x_icmp_ge (tgt := 139) hX dX9_search_51 (by decide) rfl rfl (fun hc => ?_) (fun hc => ?_)
  · replace h := (if_pos hc).symm.trans h
    refine x_iloadn hX dX9_search_54 rfl ?_
    refine x_iload hX dX9_search_55 rfl ?_
    refine x_ishr hX dX9_search_57 ?_
    refine x_iconst hX dX9_search_58 ?_
    refine x_iand hX dX9_search_59 ?_
    refine x_if_ne (tgt := 133) hX dX9_search_60 (by decide) rfl (fun hc => ?_) (fun hc => ?_)
    · replace h := (if_pos hc).symm.trans h
      refine x_aloadn hX dX9_search_63 rfl ?_
      refine x_getRj (j := 136) hX dX9_search_64 fl_X9_22 rfl (st97 hs) rfl ?_
      refine x_iloadn hX dX9_search_67 rfl ?_
      refine x_iload hX dX9_search_68 rfl ?_
      obtain ⟨b_2, h⟩ := gi_of h
      obtain ⟨M_1, eM_1, h⟩ := bnd_of h
      refine x_iast hX dX9_search_70 (st136 hs) b_2 rfl (x_meq eM_1 ?_)
      refine x_aloadn hX dX9_search_71 rfl ?_
      refine x_getRj (j := 98) hX dX9_search_72 fl_X9_12 rfl (st97 hs) rfl ?_
      refine x_aloadn hX dX9_search_75 rfl ?_
      refine x_getRj (j := a1 + 1) hX dX9_search_76 fl_X9_67 rfl h1 rfl ?_
      refine x_iloadn hX dX9_search_79 rfl ?_
      refine x_iload hX dX9_search_80 rfl ?_
      obtain ⟨M_4, er_3, h⟩ := cl1_of h
      refine x_callVv (t := 7) (As := [vr (xG X) (a1 + 1), vi x2, vi x5]) (rest := []) hX dX9_search_82 (c_X7_run (gk hX) (gl hX) (st98 hs) (fo_1_0 (gk hX) h1) x2 x5 M_1 _ er_3) kX7_run vX7_run w_1353 (st98 hs) rfl rfl (lv_of hl0 rfl) rfl (Nat.le_of_ble_eq_true rfl) z0 ?_
      refine x_iload hX dX9_search_85 rfl ?_
      refine x_aloadn hX dX9_search_87 rfl ?_
      refine x_iload hX dX9_search_88 rfl ?_
      refine x_aloadn hX dX9_search_90 rfl ?_
      refine x_getRj (j := 98) hX dX9_search_91 fl_X9_12 rfl (st97 hs) rfl ?_
      refine x_aloadn hX dX9_search_94 rfl ?_
      refine x_getRj (j := a1 + 1) hX dX9_search_95 fl_X9_67 rfl h1 rfl ?_
      refine x_iloadn hX dX9_search_98 rfl ?_
      obtain ⟨r_5, er_5, h⟩ := cl1_of h
      refine x_callVi (t := 7) (As := [vr (xG X) (a1 + 1), vi x2]) (rest := [vi x5, vr (xG X) a1, vi x4]) hX dX9_search_99 (c_X7_completion (gk hX) (gl hX) (st98 hs) (fo_1_0 (gk hX) h1) x2 M_4 _ er_5) kX7_completion vX7_completion w_1354 (st98 hs) rfl rfl (lv_of hl0 rfl) rfl (Nat.le_of_ble_eq_true rfl) z0 ?_
      obtain ⟨r_7, er_7, h⟩ := cl1_of h
      refine x_callVi (t := 1) (As := [vi x5, vi r_5]) (rest := [vi x4]) hX dX9_search_102 (c_X1_tardinessOf (gk hX) (gl hX) h1 x5 r_5 M_4 _ er_7) kX1_tardinessOf vX1_tardinessOf w_1355 h1 rfl rfl (lv_of hl0 rfl) rfl (Nat.le_of_ble_eq_true rfl) z0 ?_
      refine x_iadd hX dX9_search_105 ?_
      obtain ⟨x6_9, ex6_9, h⟩ := bnd_of h
      refine x_istore (ls' := [some (vr (xG X) 97), some (vr (xG X) a1), some (vi x2), some (vi x3), some (vi x4), some (vi x5), some (vi x6_9)]) hX dX9_search_106 rfl ex6_9 rfl ?_
      refine x_iload hX dX9_search_108 rfl ?_
      refine x_aloadn hX dX9_search_110 rfl ?_
      refine x_getI hX dX9_search_111 fl_X9_36 rfl (st97 hs) ?_
      refine x_icmp_ge (tgt := 133) hX dX9_search_114 (by decide) rfl rfl (fun hc => ?_) (fun hc => ?_)
      · replace h := (if_pos hc).symm.trans h
        refine x_aloadn hX dX9_search_117 rfl ?_
        refine x_aloadn hX dX9_search_118 rfl ?_
        refine x_iloadn hX dX9_search_119 rfl ?_
        refine x_iconst hX dX9_search_120 ?_
        refine x_iadd hX dX9_search_121 ?_
        refine x_iloadn hX dX9_search_122 rfl ?_
        refine x_iconst hX dX9_search_123 ?_
        refine x_iload hX dX9_search_124 rfl ?_
        refine x_ishl hX dX9_search_126 ?_
        refine x_ior hX dX9_search_127 ?_
        refine x_iload hX dX9_search_128 rfl ?_
        obtain ⟨M_11, er_10, h⟩ := cl1_of h
        refine x_callVv (t := 8) (As := [vr (xG X) a1, vi (x2 + 1), vi (i_or x3 (i_shl 1 x5)), vi x6_9]) (rest := []) hX dX9_search_130 (hrec h1 (x2 + 1) (i_or x3 (i_shl 1 x5)) x6_9 M_4 _ er_10) kX9_search vX9_search w_1348 (st97 hs) rfl rfl hlv rfl (Nat.le_of_ble_eq_true rfl) z0 ?_
        exact x_weak [true, true, true, true, true, true, false] rfl (tj_X9_search_133_42 hX hs hrec hlv hl0 h1 x2 x3 x4 x5 M_11 o h hP hE hR)
      · replace h := (if_neg hc).symm.trans h
        exact x_weak [true, true, true, true, true, true, false] rfl (tj_X9_search_133_42 hX hs hrec hlv hl0 h1 x2 x3 x4 x5 M_4 o h hP hE hR)
    · replace h := (if_neg hc).symm.trans h
      exact x_weak [true, true, true, true, true, true, false] rfl (tj_X9_search_133_42 hX hs hrec hlv hl0 h1 x2 x3 x4 x5 M o h hP hE hR)
  · replace h := (if_neg hc).symm.trans h
    exact x_weak [false, false, false, false, false, false, false] rfl (hE M (Option.some.inj h).symm)
set_option maxRecDepth 100000 in
set_option maxHeartbeats 4000000 in
theorem tj_X9_search_17 {X : Cxt} {lw : Nat} (hX : Gd X RX9 cX9_search 7 (none) lw) (hs : SOK (xG X)) {lvr : Nat} {rec : Nat → Int → Int → Int → Mem → Option (Mem)} (hrec : ∀ {a1 : Nat} (h1 : at_ (xG X) a1 11 0) (x2 : Int) (x3 : Int) (x4 : Int) (M : Mem) (Mr : Mem), rec a1 x2 x3 x4 M = some Mr → Cn (xl X) (xG X) mX9_search lvr [vr (xG X) 97, vr (xG X) a1, vi x2, vi x3, vi x4] M none Mr) (hlv : Nat.ble (lvr + 1) lw = true) (hl0 : 10 ≤ lw) {a1 : Nat} (h1 : at_ (xG X) a1 11 0)  (x4 : Int) (M : Mem) (Mr : Mem) (h : j_X9_search_17 rec a1 x4 M = some Mr) : V X 0 0 (Qn X none Mr) 17 [some (vr (xG X) 97), none, none, none, some (vi x4), none, none] [] M := by
  unfold j_X9_search_17 at h
  refine x_aloadn hX dX9_search_17 rfl ?_
  refine x_iload hX dX9_search_18 rfl ?_
  obtain ⟨M_14, eM_14, h⟩ := bnd_of h
  refine x_putI hX dX9_search_20 fp_X9_36 rfl (st97 hs) (x_meq eM_14 ?_)
  refine x_aloadn hX dX9_search_23 rfl ?_
  refine x_getRj (j := 136) hX dX9_search_24 fl_X9_22 rfl (st97 hs) rfl ?_
  refine x_iconst hX dX9_search_27 ?_
  refine x_aloadn hX dX9_search_28 rfl ?_
  refine x_getRj (j := 137) hX dX9_search_29 fl_X9_25 rfl (st97 hs) rfl ?_
  refine x_iconst hX dX9_search_32 ?_
  refine x_bipush hX dX9_search_33 bp_8 ?_
  obtain ⟨M_15, eM_15, h⟩ := bnd_of h
  refine x_copy (st := []) hX dX9_search_35 cpw_X9_79 (st136 hs) (st137 hs) (by decide +kernel) (Nat.le_of_ble_eq_true rfl) (Nat.le_of_ble_eq_true rfl) (Nat.le_of_ble_eq_true rfl) (x_meq eM_15 ?_)
  cases h
  exact x_vret hX dX9_search_38 rfl
set_option maxRecDepth 100000 in
set_option maxHeartbeats 4000000 in
theorem c0_X9_search {l : Launch} {G : Gx} {lw : Nat} (hG : GOK G) (hl : l.stackTraces = false) (hs : SOK G) {lvr : Nat} {rec : Nat → Int → Int → Int → Mem → Option (Mem)} (hrec : ∀ {a1 : Nat} (h1 : at_ G a1 11 0) (x2 : Int) (x3 : Int) (x4 : Int) (M : Mem) (Mr : Mem), rec a1 x2 x3 x4 M = some Mr → Cn l G mX9_search lvr [vr G 97, vr G a1, vi x2, vi x3, vi x4] M none Mr) (hlv : Nat.ble (lvr + 1) lw = true) (hl0 : 10 ≤ lw) {a1 : Nat} (h1 : at_ G a1 11 0) (x2 : Int) (x3 : Int) (x4 : Int) (M : Mem) (Mr : Mem) (h : g_X9_search rec a1 x2 x3 x4 M = some Mr) : Cn l G mX9_search lw [vr G 97, vr G a1, vi x2, vi x3, vi x4] M none Mr := by
  refine Cn_of2 (ls := [some (vr G 97), some (vr G a1), some (vi x2), some (vi x3), some (vi x4), none, none]) hG hl kX9_search rfl (Nat.le_of_ble_eq_true rfl) rfl rfl rfl rfl rfl (fun X eG el hX => ?_)
  subst eG; subst el
  unfold g_X9_search at h
  refine x_iloadn hX dX9_search_0 rfl ?_
  refine x_bipush hX dX9_search_1 bp_6 ?_
  refine x_icmp_ge (tgt := 17) hX dX9_search_3 (by decide) rfl cw_6 (fun hc => ?_) (fun hc => ?_)
  · replace h := (if_pos hc).symm.trans h
    refine x_iloadn hX dX9_search_6 rfl ?_
    refine x_aloadn hX dX9_search_7 rfl ?_
    refine x_getRj (j := a1 + 16) hX dX9_search_8 fl_X9_48 rfl h1 rfl ?_
    refine x_getI hX dX9_search_11 fl_X9_54 rfl (fo_1_3 (gk hX) h1) ?_
    refine x_icmp_lt (tgt := 39) hX dX9_search_14 (by decide) rfl rfl (fun hc => ?_) (fun hc => ?_)
    · replace h := (if_pos hc).symm.trans h
      refine x_iconst hX dX9_search_39 ?_
      refine x_istore (ls' := [some (vr (xG X) 97), some (vr (xG X) a1), some (vi x2), some (vi x3), some (vi x4), some (vi 0), none]) hX dX9_search_40 rfl rfl rfl ?_
      refine x_weak (ls' := [some (vr (xG X) 97), some (vr (xG X) a1), some (vi x2), some (vi x3), some (vi x4), some (vi 0), none]) [true, true, true, true, true, true, false] rfl ?_
      refine lp_use (x := (0, M)) (P := fun x => V X 0 0 (Qn X none Mr) 42 [some (vr (xG X) 97), some (vr (xG X) a1), some (vi x2), some (vi x3), some (vi x4), some (vi x.1), none] [] x.2) (PE := fun z_13 => V X 0 0 (Qn X none Mr) 139 [none, none, none, none, none, none, none] [] z_13) (PR := fun q => (Qn X none Mr) = Qn X none q) h (fun x o hh hP hE hR => ts_X9_search_42 hX hs hrec hlv hl0 h1 x2 x3 x4 x.1 x.2 o hh hP hE hR) (fun z_13 h => ?_) (fun q h => ?_)
      · show V X 0 0 (Qn X none Mr) 139 [none, none, none, none, none, none, none] [] z_13
        cases h
        exact x_vret hX dX9_search_139 rfl
      · cases h; rfl
    · replace h := (if_neg hc).symm.trans h
      exact x_weak [true, false, false, false, true, false, false] rfl (tj_X9_search_17 hX hs hrec hlv hl0 h1 x4 M Mr h)
  · replace h := (if_neg hc).symm.trans h
    exact x_weak [true, false, false, false, true, false, false] rfl (tj_X9_search_17 hX hs hrec hlv hl0 h1 x4 M Mr h)
theorem cd_X9_search {l : Launch} {G : Gx} (hG : GOK G) (hl : l.stackTraces = false) (hs : SOK G) : ∀ (d : Nat) {a1 : Nat} (h1 : at_ G a1 11 0) (x2 : Int) (x3 : Int) (x4 : Int) (M : Mem) (Mr : Mem), fd_X9_search d a1 x2 x3 x4 M = some Mr → Cn l G mX9_search (10 + d) [vr G 97, vr G a1, vi x2, vi x3, vi x4] M none Mr := by
  intro d
  induction d with
  | zero => intro a1 h1 x2 x3 x4 M Mr h; cases h
  | succ d ih =>
    intro a1 h1 x2 x3 x4 M Mr h
    exact c0_X9_search (lw := 10 + (d + 1)) (lvr := 10 + d) hG hl hs ih (Nat.ble_eq_true_of_le (Nat.le_refl _)) (Nat.le_add_right _ _) h1 x2 x3 x4 M Mr h
theorem c_X9_search {l : Launch} {G : Gx} (hG : GOK G) (hl : l.stackTraces = false) (hs : SOK G) {a1 : Nat} (h1 : at_ G a1 11 0) (x2 : Int) (x3 : Int) (x4 : Int) (M : Mem) (Mr : Mem) (h : f_X9_search a1 x2 x3 x4 M = some Mr) : Cn l G mX9_search 18 [vr G 97, vr G a1, vi x2, vi x3, vi x4] M none Mr := cd_X9_search hG hl hs 8 h1 x2 x3 x4 M Mr h
set_option maxRecDepth 100000 in
set_option maxHeartbeats 4000000 in
theorem tj_X9_arrange_47 {X : Cxt} (hX : Gd X RX9 cX9_arrange 3 (none) 19) (hs : SOK (xG X)) {a1 : Nat} (h1 : at_ (xG X) a1 11 0)  (M : Mem) (Mr : Mem) (h : j_X9_arrange_47 a1 M = some Mr) : V X 0 0 (Qn X none Mr) 47 [some (vr (xG X) 97), some (vr (xG X) a1), none] [] M := by
  unfold j_X9_arrange_47 at h
  refine x_aloadn hX dX9_arrange_47 rfl ?_
  refine x_aloadn hX dX9_arrange_48 rfl ?_
  refine x_getRj (j := a1 + 16) hX dX9_arrange_49 fl_X9_48 rfl h1 rfl ?_
  obtain ⟨M_7, er_6, h⟩ := cl1_of h
  refine x_callVv (t := 8) (As := [vr (xG X) (a1 + 16)]) (rest := []) hX dX9_arrange_52 (c_X9_applyTo (gk hX) (gl hX) hs (fo_1_3 (gk hX) h1) M _ er_6) kX9_applyTo vX9_applyTo w_1373 (st97 hs) rfl rfl rfl rfl (Nat.le_of_ble_eq_true rfl) z0 ?_
  cases h
  exact x_vret hX dX9_arrange_55 rfl
set_option maxRecDepth 100000 in
set_option maxHeartbeats 4000000 in
theorem c_X9_arrange {l : Launch} {G : Gx} (hG : GOK G) (hl : l.stackTraces = false) (hs : SOK G) {a1 : Nat} (h1 : at_ G a1 11 0) (x2 : Int) (M : Mem) (Mr : Mem) (h : f_X9_arrange a1 x2 M = some Mr) : Cn l G mX9_arrange 19 [vr G 97, vr G a1, vi x2] M none Mr := by
  refine Cn_of2 (ls := [some (vr G 97), some (vr G a1), some (vi x2)]) hG hl kX9_arrange rfl (Nat.le_of_ble_eq_true rfl) rfl rfl rfl rfl rfl (fun X eG el hX => ?_)
  subst eG; subst el
  unfold f_X9_arrange at h
  refine x_aloadn hX dX9_arrange_0 rfl ?_
  refine x_getRj (j := 98) hX dX9_arrange_1 fl_X9_12 rfl (st97 hs) rfl ?_
  refine x_aloadn hX dX9_arrange_4 rfl ?_
  obtain ⟨M_2, er_1, h⟩ := cl1_of h
  refine x_callVv (t := 7) (As := [vr (xG X) a1]) (rest := []) hX dX9_arrange_5 (c_X7_measureWork (gk hX) (gl hX) (st98 hs) h1 M _ er_1) kX7_measureWork vX7_measureWork w_1346 (st98 hs) rfl rfl rfl rfl (Nat.le_of_ble_eq_true rfl) z0 ?_
  refine x_iloadn hX dX9_arrange_8 rfl ?_
  refine x_iconst hX dX9_arrange_9 ?_
  refine x_icmp_ne (tgt := 30) hX dX9_arrange_10 (by decide) rfl cw_2 (fun hc => ?_) (fun hc => ?_)
  · replace h := (if_pos hc).symm.trans h
    refine x_aloadn hX dX9_arrange_13 rfl ?_
    refine x_ldc hX dX9_arrange_14 w_1347 ?_
    obtain ⟨M_3, eM_3, h⟩ := bnd_of h
    refine x_putI hX dX9_arrange_16 fp_X9_36 rfl (st97 hs) (x_meq eM_3 ?_)
    refine x_aloadn hX dX9_arrange_19 rfl ?_
    refine x_aloadn hX dX9_arrange_20 rfl ?_
    refine x_iconst hX dX9_arrange_21 ?_
    refine x_iconst hX dX9_arrange_22 ?_
    refine x_iconst hX dX9_arrange_23 ?_
    obtain ⟨M_5, er_4, h⟩ := cl1_of h
    refine x_callVv (t := 8) (As := [vr (xG X) a1, vi 0, vi 0, vi 0]) (rest := []) hX dX9_arrange_24 (c_X9_search (gk hX) (gl hX) hs h1 0 0 0 M_3 _ er_4) kX9_search vX9_search w_1348 (st97 hs) rfl rfl rfl rfl (Nat.le_of_ble_eq_true rfl) z0 ?_
    refine x_goto (tgt := 47) hX dX9_arrange_27 (by decide) ?_
    exact x_weak [true, true, false] rfl (tj_X9_arrange_47 hX hs h1 M_5 Mr h)
  · replace h := (if_neg hc).symm.trans h
    refine x_aloadn hX dX9_arrange_30 rfl ?_
    refine x_aloadn hX dX9_arrange_31 rfl ?_
    refine x_iloadn hX dX9_arrange_32 rfl ?_
    obtain ⟨M_9, er_8, h⟩ := cl1_of h
    refine x_callVv (t := 8) (As := [vr (xG X) a1, vi x2]) (rest := []) hX dX9_arrange_33 (c_X9_fillKeys (gk hX) (gl hX) hs h1 x2 M_2 _ er_8) kX9_fillKeys vX9_fillKeys w_1356 (st97 hs) rfl rfl rfl rfl (Nat.le_of_ble_eq_true rfl) z0 ?_
    refine x_aloadn hX dX9_arrange_36 rfl ?_
    refine x_aloadn hX dX9_arrange_37 rfl ?_
    refine x_getRj (j := a1 + 16) hX dX9_arrange_38 fl_X9_48 rfl h1 rfl ?_
    refine x_getI hX dX9_arrange_41 fl_X9_54 rfl (fo_1_3 (gk hX) h1) ?_
    obtain ⟨M_11, er_10, h⟩ := cl1_of h
    refine x_callVv (t := 8) (As := [vi (M_9 (a1 + 16) 0)]) (rest := []) hX dX9_arrange_44 (c_X9_sortByKeys (gk hX) (gl hX) hs (M_9 (a1 + 16) 0) M_9 _ er_10) kX9_sortByKeys vX9_sortByKeys w_1369 (st97 hs) rfl rfl rfl rfl (Nat.le_of_ble_eq_true rfl) z0 ?_
    exact x_weak [true, true, false] rfl (tj_X9_arrange_47 hX hs h1 M_11 Mr h)
set_option maxRecDepth 100000 in
set_option maxHeartbeats 4000000 in
theorem tj_X11_sortBatches_36 {X : Cxt} (hX : Gd X RX11 cX11_sortBatches 2 (some .int) 20) (hN : NX X 2 12) (hs : SOK (xG X))   (x1 : Int) (M : Mem) (r : Nat ⊕ Int) (Mr : Mem) (h : j_X11_sortBatches_36 x1 M = some (r, Mr)) : V X 1 6 (Qx X 2 12 (ovi r) Mr) 36 [some (vr (xG X) 0), some (vi x1)] [] M := by
  unfold j_X11_sortBatches_36 at h
  refine x_aloadn hX dX11_sortBatches_36 rfl ?_
  refine x_getRj (j := 97) hX dX11_sortBatches_37 fl_X11_54 rfl (st0 hs) rfl ?_
  refine x_aloadn hX dX11_sortBatches_40 rfl ?_
  refine x_getRj (j := 1) hX dX11_sortBatches_41 fl_X11_10 rfl (st0 hs) rfl ?_
  refine x_iloadn hX dX11_sortBatches_44 rfl ?_
  obtain ⟨M_5, er_4, h⟩ := cl1_of h
  refine x_callVv (t := 8) (As := [vr (xG X) 1, vi x1]) (rest := []) hX dX11_sortBatches_45 (c_X9_arrange (gk hX) (gl hX) hs (st1 hs) x1 M _ er_4) kX9_arrange vX9_arrange w_1342 (st97 hs) rfl rfl rfl rfl (Nat.le_of_ble_eq_true rfl) (kf hN (a := 1) (b := 6) (Nat.le_of_ble_eq_true rfl) (Nat.le_of_ble_eq_true rfl)) ?_
  refine x_aloadn hX dX11_sortBatches_48 rfl ?_
  obtain ⟨r_6, M_7, er_6, h⟩ := cl2_of h
  refine x_callVi (t := 10) (As := []) (rest := []) hX dX11_sortBatches_49 (c_X11_tardinessNow (gk hX) (gl hX) hs M_5 _ _ er_6) kX11_tardinessNow vX11_tardinessNow w_710 (st0 hs) rfl rfl rfl rfl (Nat.le_of_ble_eq_true rfl) (kf hN (a := 1) (b := 6) (Nat.le_of_ble_eq_true rfl) (Nat.le_of_ble_eq_true rfl)) ?_
  cases h
  exact x_iretX hX dX11_sortBatches_52 (Nat.le_of_ble_eq_true rfl) (Nat.le_of_ble_eq_true rfl)
set_option maxRecDepth 100000 in
set_option maxHeartbeats 4000000 in
theorem c_X11_sortBatches {l : Launch} {G : Gx} (hG : GOK G) (hl : l.stackTraces = false) (hs : SOK G)  (x1 : Int) (M : Mem) (r : Nat ⊕ Int) (Mr : Mem) (h : f_X11_sortBatches x1 M = some (r, Mr)) : Cx l G mX11_sortBatches 20 2 12 [vr G 0, vi x1] M (ovi r) Mr := by
  refine Cx_of2 (ls := [some (vr G 0), some (vi x1)]) hG hl kX11_sortBatches rfl (Nat.le_of_ble_eq_true rfl) rfl rfl rfl rfl rfl (fun X eG el hX hN => ?_)
  subst eG; subst el
  unfold f_X11_sortBatches at h
  refine x_iloadn hX dX11_sortBatches_0 rfl ?_
  refine x_iconst hX dX11_sortBatches_1 ?_
  refine x_iconst hX dX11_sortBatches_2 ?_
  rcases cx1_of h with ⟨e_3, ee_3, h⟩ | ⟨r_1, er_1, h⟩
  · exact x_rs2 (f := ovi) h (x_xSt (As := [vi x1, vi 0, vi 2]) (rest := []) hX hN dX11_sortBatches_3 (c_X11_needArgument (gk hX) (gl hX) x1 0 2 M _ ee_3) kX11_needArgument sX11_needArgument w_965 rfl rfl rfl (Nat.le_of_ble_eq_true rfl) (Nat.le_of_ble_eq_true rfl) (Nat.le_of_ble_eq_true rfl))
  · refine x_xSr (As := [vi x1, vi 0, vi 2]) (rest := []) hX dX11_sortBatches_3 (c_X11_needArgument (gk hX) (gl hX) x1 0 2 M _ er_1) kX11_needArgument sX11_needArgument w_965 rfl rfl rfl (Nat.le_of_ble_eq_true rfl) (kf hN (a := 1) (b := 6) (Nat.le_of_ble_eq_true rfl) (Nat.le_of_ble_eq_true rfl)) ?_
    show V X 1 6 _ 6 [some (vr (xG X) 0), some (vi x1)] [] M
    refine x_iloadn hX dX11_sortBatches_6 rfl ?_
    refine x_iconst hX dX11_sortBatches_7 ?_
    refine x_icmp_ne (tgt := 36) hX dX11_sortBatches_8 (by decide) rfl cw_2 (fun hc => ?_) (fun hc => ?_)
    · replace h := (if_pos hc).symm.trans h
      refine x_aloadn hX dX11_sortBatches_11 rfl ?_
      refine x_getRj (j := 1) hX dX11_sortBatches_12 fl_X11_10 rfl (st0 hs) rfl ?_
      refine x_getRj (j := 17) hX dX11_sortBatches_15 fl_X11_159 rfl (st1 hs) rfl ?_
      refine x_getI hX dX11_sortBatches_18 fl_X11_168 rfl (st17 hs) ?_
      refine x_bipush hX dX11_sortBatches_21 bp_6 ?_
      refine x_icmp_le (tgt := 36) hX dX11_sortBatches_23 (by decide) rfl cw_6 (fun hc => ?_) (fun hc => ?_)
      · replace h := (if_pos hc).symm.trans h
        cases h
        exact x_thrS (x := 1) (k' := 21) hX hN dX11_sortBatches_26 dX11_sortBatches_29 dX11_sortBatches_30 dX11_sortBatches_32 dX11_sortBatches_35 thr_72_76 rfl (Nat.le_of_ble_eq_true rfl) (Nat.le_of_ble_eq_true rfl) (Nat.le_of_ble_eq_true rfl)
      · replace h := (if_neg hc).symm.trans h
        exact x_weak [true, true] rfl (tj_X11_sortBatches_36 hX hN hs x1 M r Mr h)
    · replace h := (if_neg hc).symm.trans h
      exact x_weak [true, true] rfl (tj_X11_sortBatches_36 hX hN hs x1 M r Mr h)
