-- ===== save =====
def mX11_save : Mth := (yX11_save, cX11_save, 3, none)
theorem w_1613 : Cond.code yX11_save cX11_save 3 (none) ∈ WS := ws_of 1613 (by decide +kernel) (by decide +kernel)
theorem kX11_save : MK mX11_save 1 := ⟨w_1613, w_150, by decide +kernel, Nat.le_of_ble_eq_true rfl, by decide +kernel⟩
theorem w_1611 : Cond.instanceMethod yX11_save ∈ WS := ws_of 1611 (by decide +kernel) (by decide +kernel)
theorem w_1612 : Cond.selects RX11 yX11_save yX11_save ∈ WS := ws_of 1612 (by decide +kernel) (by decide +kernel)
theorem vX11_save : MV mX11_save := ⟨w_1611, w_1612⟩
def mL_save : Mth := (yL_save, cL_save, 3, some .int)
theorem w_1608 : Cond.static yL_save ∈ WS := ws_of 1608 (by decide +kernel) (by decide +kernel)
theorem w_1610 : Cond.methodLink RL 143 yX11_save ∈ WS := ws_of 1610 (by decide +kernel) (by decide +kernel)
theorem w_1607 : Cond.methodLink RL 347 yL_save ∈ WS := ws_of 1607 (by decide +kernel) (by decide +kernel)
theorem w_2353 : Cond.methodLink RL 350 yX12_save ∈ WS := ws_of 2353 (by decide +kernel) (by decide +kernel)
theorem w_2354 : Cond.instanceMethod yX12_save ∈ WS := ws_of 2354 (by decide +kernel) (by decide +kernel)
theorem w_2355 : Cond.selects RX12 yX12_save yX12_save ∈ WS := ws_of 2355 (by decide +kernel) (by decide +kernel)
theorem vX12_save : MV mX12_save := ⟨w_2354, w_2355⟩
set_option maxRecDepth 100000 in
set_option maxHeartbeats 4000000 in
theorem c_X11_saveO {l : Launch} {G : Gx} (hG : GOK G) (hl : l.stackTraces = false) (hs : SOK G) (x1 : Int) (M : Mem) (hsv : ∀ j : Nat, j < 2 → ¬ M 37 j = 0 → at_ G (160 + 18 * j) 11 0) (r : Nat ⊕ Unit) (Mr : Mem) (ho : r = .inr () → ¬ M 37 (ix x1) = 0) (h : f_X11_save x1 M = some (r, Mr)) : Cx l G mX11_save 5 1 6 [vr G 0, vi x1] M (ovu r) Mr := by
  refine Cx_of2 (ls := [some (vr G 0), some (vi x1), none]) hG hl kX11_save rfl (Nat.le_of_ble_eq_true rfl) rfl rfl rfl rfl rfl (fun X eG el hX hN => ?_)
  subst eG; subst el
  unfold f_X11_save at h
  refine x_iloadn hX dX11_save_0 rfl ?_
  refine x_iconst hX dX11_save_1 ?_
  refine x_iconst hX dX11_save_2 ?_
  rcases cx1_of h with ⟨e_3, ee_3, h⟩ | ⟨r_1, er_1, h⟩
  · exact x_rs2 (f := ovu) h (x_xSt (As := [vi x1, vi 0, vi 1]) (rest := []) hX hN dX11_save_3 (c_X11_needArgument (gk hX) (gl hX) x1 0 1 M _ ee_3) kX11_needArgument sX11_needArgument w_965 rfl rfl rfl (Nat.le_of_ble_eq_true rfl) (Nat.le_of_ble_eq_true rfl) (Nat.le_of_ble_eq_true rfl))
  · refine x_xSr (As := [vi x1, vi 0, vi 1]) (rest := []) hX dX11_save_3 (c_X11_needArgument (gk hX) (gl hX) x1 0 1 M _ er_1) kX11_needArgument sX11_needArgument w_965 rfl rfl rfl (Nat.le_of_ble_eq_true rfl) (kf hN (a := 1) (b := 6) (Nat.le_of_ble_eq_true rfl) (Nat.le_of_ble_eq_true rfl)) ?_
    show V X 1 6 _ 6 [some (vr (xG X) 0), some (vi x1), none] [] M
    refine x_aloadn hX dX11_save_6 rfl ?_
    refine x_getRj (j := 37) hX dX11_save_7 fl_X11_19 rfl (st0 hs) rfl ?_
    refine x_iloadn hX dX11_save_10 rfl ?_
    obtain ⟨b_4, h⟩ := gi_of h
    by_cases hc : M 37 (ix x1) = 0
    · exfalso
      replace h := (if_pos hc).symm.trans h
      obtain ⟨Mn, en, h⟩ := cl1_of h
      obtain ⟨M_6, er_5, h⟩ := cl1_of h
      cases h
      exact ho rfl hc
    · replace h := (if_neg hc).symm.trans h
      refine x_aald6 hX dX11_save_11 (st37 hs) b_4 hc ?_
      refine x_astoren (ls' := [some (vr (xG X) 0), some (vi x1), some (vr (xG X) (160 + 18 * ix x1))]) hX dX11_save_12 rfl rfl ?_
      refine x_aloadn hX dX11_save_13 rfl ?_
      refine x_nonnullR (tgt := 32) hX dX11_save_14 (by decide) ?_
      refine x_aloadn hX dX11_save_32 rfl ?_
      refine x_aloadn hX dX11_save_33 rfl ?_
      refine x_getRj (j := 1) hX dX11_save_34 fl_X11_10 rfl (st0 hs) rfl ?_
      obtain ⟨M_6, er_5, h⟩ := cl1_of h
      have hb := hsv _ (inb2 b_4) hc
      refine x_callVv (t := 1) (As := [vr (xG X) 1]) (rest := []) hX dX11_save_37 (c_X1_copyFrom (gk hX) (gl hX) hb (st1 hs) M _ er_5) kX1_copyFrom vX1_copyFrom w_922 hb rfl rfl rfl rfl (Nat.le_of_ble_eq_true rfl) (kf hN (a := 1) (b := 6) (Nat.le_of_ble_eq_true rfl) (Nat.le_of_ble_eq_true rfl)) ?_
      cases h
      exact x_vretX hX dX11_save_40 (Nat.le_of_ble_eq_true rfl) (Nat.le_of_ble_eq_true rfl)
set_option maxRecDepth 100000 in
set_option maxHeartbeats 4000000 in
theorem c_X11_saveN {l : Launch} {G : Gx} (hG : GOK G) (hl : l.stackTraces = false) (hs : SOK G) (x1 : Int) (M : Mem) (hcl : CL G M) (hdj : ∀ r ∈ gL G, r ∉ blkL (ix x1)) (Mr : Mem) (hc : M 37 (ix x1) = 0) (h : f_X11_save x1 M = some (.inr (), Mr)) : Cg l G mX11_save (wsM mX11_save) 5 19 479 [vr G 0, vi x1] M none (blkL (ix x1)) Mr := by
  refine Cg_of (ls := [some (vr G 0), some (vi x1), none]) hG hl kX11_save rfl (Nat.le_of_ble_eq_true rfl) rfl rfl rfl rfl rfl (fun X eG el hX hN hxA => ?_)
  subst eG; subst el
  have hB : ∀ q, (xs X).heap.size ≤ q → xA X q := fun q h => by rw [hxA]; exact Or.inr h
  unfold f_X11_save at h
  refine x_iloadn hX dX11_save_0 rfl ?_
  refine x_iconst hX dX11_save_1 ?_
  refine x_iconst hX dX11_save_2 ?_
  rcases cx1_of h with ⟨e_3, ee_3, h⟩ | ⟨r_1, er_1, h⟩
  · cases h
  refine x_xSr (As := [vi x1, vi 0, vi 1]) (rest := []) hX dX11_save_3 (c_X11_needArgument (gk hX) (gl hX) x1 0 1 M _ er_1) kX11_needArgument sX11_needArgument w_965 rfl rfl rfl (Nat.le_of_ble_eq_true rfl) (kf hN (a := 1) (b := 6) (Nat.le_of_ble_eq_true rfl) (Nat.le_of_ble_eq_true rfl)) ?_
  show V X 1 6 _ 6 [some (vr (xG X) 0), some (vi x1), none] [] M
  refine x_aloadn hX dX11_save_6 rfl ?_
  refine x_getRj (j := 37) hX dX11_save_7 fl_X11_19 rfl (st0 hs) rfl ?_
  refine x_iloadn hX dX11_save_10 rfl ?_
  obtain ⟨b_4, h⟩ := gi_of h
  replace h := (if_pos hc).symm.trans h
  refine x_aald6z hX dX11_save_11 (st37 hs) b_4 hc ?_
  refine x_nstoren (ls' := [some (vr (xG X) 0), some (vi x1), some (.null)]) hX dX11_save_12 rfl rfl ?_
  refine x_nloadn hX dX11_save_13 rfl ?_
  refine x_nonnullN hX dX11_save_14 ?_
  have hj2 := inb2 b_4
  rcases (show ix x1 = 0 ∨ ix x1 = 1 by omega) with hj | hj
  · replace h := h
    rw [hj] at h
    have h' : cl1 (f_X3_reset 161 (fun _ _ => 0)) (fun Mn => cl1 (f_X1_copyFrom 160 1 (upd2 (mj M Mn [162, 163, 161, 165, 166, 167, 168, 164, 170, 171, 172, 173, 174, 175, 169, 177, 176, 160]) 37 0 1)) (fun M_6 => some ((.inr () : Nat ⊕ Unit), M_6))) = some (.inr (), Mr) := h
    obtain ⟨Mn, en, h⟩ := cl1_of h'
    obtain ⟨M_6, er_5, h⟩ := cl1_of h
    cases h
    have hLs : blkL (ix x1) = [162, 163, 161, 165, 166, 167, 168, 164, 170, 171, 172, 173, 174, 175, 169, 177, 176, 160] := by rw [hj]; rfl
    rw [hLs] at hdj ⊢
    refine x_newV (Ls := [162, 163, 161, 165, 166, 167, 168, 164, 170, 171, 172, 173, 174, 175, 169, 177, 176, 160]) (Ms := Mn) hX dX11_save_17 dX11_save_20 dX11_save_21 nw_X11_9 (ci_X1_160 (gl hX) en) rfl (Nat.le_of_ble_eq_true rfl) hB (by rw [hN.2.1]; exact (Nat.le_of_ble_eq_true rfl)) (by rw [hN.2.2]; exact (Nat.le_of_ble_eq_true rfl)) hdj (by decide) hcl (fun Gs e => CL_of e (by decide +kernel) (no6 (by decide +kernel))) (by decide) (fun G1 t1 l1 a1 hY hcl1 => ?_)
    have hs1 : SOK (xG (xA X, G1, X.2.2)) := fun i hi => by show i ∈ gL G1; rw [l1]; exact List.mem_append_left _ (hs i hi)
    have hh : at_ (xG (xA X, G1, X.2.2)) 160 11 0 := ⟨by show _ ∈ gL G1; rw [l1]; exact List.mem_append_right _ (by decide), by decide +kernel⟩
    have e0 : vr (xG X) 0 = vr (xG (xA X, G1, X.2.2)) 0 := by show Value.ref (gad (xG X) 0) = Value.ref (gad G1 0); rw [a1 0 (hs 0 (by decide))]
    rw [e0]
    refine x_astoren (a := 160) (ls' := [some (vr (xG (xA X, G1, X.2.2)) 0), some (vi x1), some (vr (xG (xA X, G1, X.2.2)) 160)]) hY dX11_save_24 rfl rfl ?_
    refine x_aloadn hY dX11_save_25 rfl ?_
    refine x_getRj (j := 37) hY dX11_save_26 fl_X11_19 rfl (st0 hs1) rfl ?_
    refine x_iloadn hY dX11_save_29 rfl ?_
    refine x_aloadn hY dX11_save_30 rfl ?_
    refine x_aast6 hY dX11_save_31 (st37 hs1) b_4 (by rw [hj]) hh ?_
    rw [hj]
    refine x_aloadn hY dX11_save_32 rfl ?_
    refine x_aloadn hY dX11_save_33 rfl ?_
    refine x_getRj (j := 1) hY dX11_save_34 fl_X11_10 rfl (st0 hs1) rfl ?_
    refine x_callVv (t := 1) (As := [vr (xG (xA X, G1, X.2.2)) 1]) (rest := []) hY dX11_save_37 (c_X1_copyFrom (gk hY) (gl hY) hh (st1 hs1) _ _ er_5) kX1_copyFrom vX1_copyFrom w_922 hh rfl rfl rfl rfl (Nat.le_of_ble_eq_true rfl) (kf hN (a := 19) (b := 479) (Nat.le_of_ble_eq_true rfl) (Nat.le_of_ble_eq_true rfl)) ?_
    exact x_vretG hY t1 l1 a1 hxA dX11_save_40 (Nat.le_of_ble_eq_true rfl) (Nat.le_of_ble_eq_true rfl)
  · replace h := h
    rw [hj] at h
    have h' : cl1 (f_X3_reset 179 (fun _ _ => 0)) (fun Mn => cl1 (f_X1_copyFrom 178 1 (upd2 (mj M Mn [180, 181, 179, 183, 184, 185, 186, 182, 188, 189, 190, 191, 192, 193, 187, 195, 194, 178]) 37 1 1)) (fun M_6 => some ((.inr () : Nat ⊕ Unit), M_6))) = some (.inr (), Mr) := h
    obtain ⟨Mn, en, h⟩ := cl1_of h'
    obtain ⟨M_6, er_5, h⟩ := cl1_of h
    cases h
    have hLs : blkL (ix x1) = [180, 181, 179, 183, 184, 185, 186, 182, 188, 189, 190, 191, 192, 193, 187, 195, 194, 178] := by rw [hj]; rfl
    rw [hLs] at hdj ⊢
    refine x_newV (Ls := [180, 181, 179, 183, 184, 185, 186, 182, 188, 189, 190, 191, 192, 193, 187, 195, 194, 178]) (Ms := Mn) hX dX11_save_17 dX11_save_20 dX11_save_21 nw_X11_9 (ci_X1_178 (gl hX) en) rfl (Nat.le_of_ble_eq_true rfl) hB (by rw [hN.2.1]; exact (Nat.le_of_ble_eq_true rfl)) (by rw [hN.2.2]; exact (Nat.le_of_ble_eq_true rfl)) hdj (by decide) hcl (fun Gs e => CL_of e (by decide +kernel) (no6 (by decide +kernel))) (by decide) (fun G1 t1 l1 a1 hY hcl1 => ?_)
    have hs1 : SOK (xG (xA X, G1, X.2.2)) := fun i hi => by show i ∈ gL G1; rw [l1]; exact List.mem_append_left _ (hs i hi)
    have hh : at_ (xG (xA X, G1, X.2.2)) 178 11 0 := ⟨by show _ ∈ gL G1; rw [l1]; exact List.mem_append_right _ (by decide), by decide +kernel⟩
    have e0 : vr (xG X) 0 = vr (xG (xA X, G1, X.2.2)) 0 := by show Value.ref (gad (xG X) 0) = Value.ref (gad G1 0); rw [a1 0 (hs 0 (by decide))]
    rw [e0]
    refine x_astoren (a := 178) (ls' := [some (vr (xG (xA X, G1, X.2.2)) 0), some (vi x1), some (vr (xG (xA X, G1, X.2.2)) 178)]) hY dX11_save_24 rfl rfl ?_
    refine x_aloadn hY dX11_save_25 rfl ?_
    refine x_getRj (j := 37) hY dX11_save_26 fl_X11_19 rfl (st0 hs1) rfl ?_
    refine x_iloadn hY dX11_save_29 rfl ?_
    refine x_aloadn hY dX11_save_30 rfl ?_
    refine x_aast6 hY dX11_save_31 (st37 hs1) b_4 (by rw [hj]) hh ?_
    rw [hj]
    refine x_aloadn hY dX11_save_32 rfl ?_
    refine x_aloadn hY dX11_save_33 rfl ?_
    refine x_getRj (j := 1) hY dX11_save_34 fl_X11_10 rfl (st0 hs1) rfl ?_
    refine x_callVv (t := 1) (As := [vr (xG (xA X, G1, X.2.2)) 1]) (rest := []) hY dX11_save_37 (c_X1_copyFrom (gk hY) (gl hY) hh (st1 hs1) _ _ er_5) kX1_copyFrom vX1_copyFrom w_922 hh rfl rfl rfl rfl (Nat.le_of_ble_eq_true rfl) (kf hN (a := 19) (b := 479) (Nat.le_of_ble_eq_true rfl) (Nat.le_of_ble_eq_true rfl)) ?_
    exact x_vretG hY t1 l1 a1 hxA dX11_save_40 (Nat.le_of_ble_eq_true rfl) (Nat.le_of_ble_eq_true rfl)
def hhL_save : List (Nat × Nat × Nat × Nat) := [(0, 5, 8, 13)]
theorem kL_save : MKh mL_save hhL_save 2 := ⟨ws_of 1609 (by decide +kernel) (by decide +kernel), w_149, by decide +kernel, (Nat.le_of_ble_eq_true rfl), by decide +kernel, w_1608⟩
set_option maxRecDepth 100000 in
set_option maxHeartbeats 4000000 in
theorem c_L_saveO {l : Launch} {G : Gx} (hG : GOK G) (hl : l.stackTraces = false) (hs : SOK G) (x1 : Int) (M : Mem) (hsv : ∀ j : Nat, j < 2 → ¬ M 37 j = 0 → at_ G (160 + 18 * j) 11 0) (ho : (∃ M1, f_X11_save x1 M = some (.inr (), M1)) → ¬ M 37 (ix x1) = 0) (r : Int) (Mr : Mem) (h : f_L_save x1 M = some (r, Mr)) : Cw l G mL_save hhL_save 6 1 6 [vr G 0, vi x1] M (some (vi r)) Mr := by
  refine Cw_of (ls := [some (vr G 0), some (vi x1), none]) hG hl kL_save rfl (Nat.le_of_ble_eq_true rfl) rfl rfl rfl rfl rfl (fun X eG el hX hN => ?_)
  subst eG; subst el
  unfold f_L_save at h
  refine x_aloadn hX dL_save_0 rfl ?_
  refine x_iloadn hX dL_save_1 rfl ?_
  rcases cx2_of h with ⟨e1, M1, ee, h⟩ | ⟨r1, M1, er, h⟩
  · by_cases q2 : e1 = 2
    · replace h := (if_pos q2).symm.trans h
      subst q2
      refine x_xVc (pre := []) (suf := []) (z := (0, 5, 8, 13)) (x := 2) (t := 10) (As := [vi x1]) (rest := []) hX hN rfl (fun q hq => by cases hq) (by decide) (by decide) w_959 dL_save_2 (c_X11_saveO (gk hX) (gl hX) hs x1 M hsv _ _ (fun q => by cases q) ee) kX11_save vX11_save w_1610 (st0 hs) rfl rfl rfl rfl (Nat.le_of_ble_eq_true rfl) (Nat.le_of_ble_eq_true rfl) (Nat.le_of_ble_eq_true rfl) (fun q => ?_)
      refine x_astoreqn (ls' := [some (vr (xG X) 0), some (vi x1), some (.ref q)]) hX dL_save_8 rfl rfl ?_
      refine x_iconst hX dL_save_9 ?_
      cases h
      exact x_iretX hX dL_save_10 (Nat.le_of_ble_eq_true rfl) (Nat.le_of_ble_eq_true rfl)
    · replace h := (if_neg q2).symm.trans h
      cases h
  · refine x_xVr (t := 10) (As := [vi x1]) (rest := []) hX dL_save_2 (c_X11_saveO (gk hX) (gl hX) hs x1 M hsv _ _ (fun _ => ho ⟨M1, er⟩) er) kX11_save vX11_save w_1610 (st0 hs) rfl rfl rfl rfl (Nat.le_of_ble_eq_true rfl) (kh hN (Nat.le_of_ble_eq_true rfl) (Nat.le_of_ble_eq_true rfl)) ?_
    refine x_goto (tgt := 11) hX dL_save_5 (by decide) ?_
    refine x_iconst hX dL_save_11 ?_
    cases h
    exact x_iretX hX dL_save_12 (Nat.le_of_ble_eq_true rfl) (Nat.le_of_ble_eq_true rfl)
set_option maxRecDepth 100000 in
set_option maxHeartbeats 4000000 in
theorem c_L_saveN {l : Launch} {G : Gx} (hG : GOK G) (hl : l.stackTraces = false) (hs : SOK G) (x1 : Int) (M : Mem) (hcl : CL G M) (hdj : ∀ r ∈ gL G, r ∉ blkL (ix x1)) (Mr : Mem) (hc : M 37 (ix x1) = 0) (h : f_X11_save x1 M = some (.inr (), Mr)) : Cg l G mL_save (wsH mL_save hhL_save) 6 19 479 [vr G 0, vi x1] M (some (vi 0)) (blkL (ix x1)) Mr := by
  refine Cgh_of (ls := [some (vr G 0), some (vi x1), none]) hG hl kL_save rfl (Nat.le_of_ble_eq_true rfl) rfl rfl rfl rfl rfl (fun X eG el hX hN hxA => ?_)
  subst eG; subst el
  have hB : ∀ q, (xs X).heap.size ≤ q → xA X q := fun q h => by rw [hxA]; exact Or.inr h
  refine x_aloadn hX dL_save_0 rfl ?_
  refine x_iloadn hX dL_save_1 rfl ?_
  refine x_xVg (t := 10) (As := [vi x1]) (rest := []) hX dL_save_2 (c_X11_saveN (gk hX) (gl hX) hs x1 M hcl hdj Mr hc h) kX11_save vX11_save w_1610 (st0 hs) rfl rfl rfl rfl (Nat.le_of_ble_eq_true rfl) (kh hN (Nat.le_of_ble_eq_true rfl) (Nat.le_of_ble_eq_true rfl)) hB (fun G1 t1 l1 a1 hY => ?_)
  refine x_goto (tgt := 11) hY dL_save_5 (by decide) ?_
  refine x_iconst hY dL_save_11 ?_
  exact x_iretG hY t1 l1 a1 hxA dL_save_12 (Nat.le_of_ble_eq_true rfl) (Nat.le_of_ble_eq_true rfl)
theorem x_wSg {X : Cxt} {k n : Nat} {Q : State → Prop} {pc : Nat} {ls : List (Option Value)} {st : List Value} {M : Mem} {own : String} {cc : ByteArray} {nL lv : Nat} {ret : Option FieldType} (hX : Gd X own cc nL ret lv) {m : Mth} {hh : List (Nat × Nat × Nat × Nat)} {lz idx np mc ms : Nat} {As rest : List Value} {r : Int} {Ls : List Nat} {M1 : Mem} (d : decode cc pc = .ok (.invokestatic idx, 3)) (hc : Cg (xl X) (xG X) m (wsH m hh) lz mc ms As M (some (vi r)) Ls M1) (hm : MKh m hh np) (hl : Cond.methodLink own idx (mY m) ∈ WS) (hn : As.length = np) (hlv : Nat.ble (lz + 1) lv = true) (hst : st = As.reverse ++ rest) (hw : (rest.map fun v => v.category).sum ≤ 8) (hf : k + mc ≤ (xR X).cells ∧ n + ms ≤ (xR X).slots) (hB : ∀ q, (xs X).heap.size ≤ q → xA X q)
    (kk : ∀ G1 : Gx, G1.2.2 = (xG X).2.2 → gL G1 = gL (xG X) ++ Ls → (∀ r ∈ gL (xG X), gad G1 r = gad (xG X) r) → Gd (xA X, G1, X.2.2) own cc nL ret lv → V (xA X, G1, X.2.2) (k + mc) (n + ms) Q (pc + 3) ls (vi r :: rest) M1) : V X k n Q pc ls st M := by
  intro H locs la hl' hP hD hS
  have h1 : lz + 1 ≤ lv := Nat.le_of_ble_eq_true hlv
  have h2 := hX.2.2.2.2.2.2.2.2.2.2.1
  have h3 := hX.2.2.2.2.2.2.2.2.2.2.2.1
  have hG : GoodIn WS (va_wsS own idx (mY m) (wsH m hh)) := by
    intro w hw
    unfold va_wsS at hw
    have : w ∈ WS := by
      rcases List.mem_append.mp hw with q | q
      · simp at q
        rcases q with rfl | rfl | rfl
        · exact hl
        · exact hm.2.2.2.2.2
        · exact hm.2.1
      · rcases List.mem_cons.mp q with q | q
        · rw [q]; exact hm.1
        · exact q
    exact ⟨this, ws_good this⟩
  refine x_goG (gB_sub hX hB hS) (a := As.toArray) (rest := rest) (vx_runSX (As := As) (rest := rest) (n := np) (hh := hh) ⟨hX.1, hX.2.1, hX.2.2.1, hX.2.2.2.1, hX.2.2.2.2.1⟩ (hc H.size) (vx_cwSW np hX.2.2.2.2.1 hG rfl rfl rfl hm.2.2.1 ⟨?_, ?_⟩) ⟨fun a U g mk z => ⟨z.1, z.2.1, z.2.2.same rfl rfl⟩, fun U hU hW => ⟨rfl, by rw [hU], x_wd hX hP hD hS hU hW⟩⟩ rfl hn (hl'.1.trans hX.2.2.1) hst (lv_room hw) d hf) hS (fun G1 H1 locs1 g1 g2 g3 g4 g5 hP1 hD1 hS1 => kk G1 g1 g2 g3 (Gd_of hX g1 g4 g5) H1 locs1 la hl' hP1 hD1 hS1)
  · show lz + 10 + 1 ≤ (xR X).frames
    exact Nat.le_trans (by omega) h2
  · show 8 + (mN m + 11) + (64 * lz + 300) ≤ (xR X).locals
    exact Nat.le_trans (x_room hm.2.2.2.1 h1) h3
set_option maxRecDepth 100000 in
set_option maxHeartbeats 4000000 in
theorem law_56 {X : Cxt} (hX : Gd X RL cL_law 7 (some .boolean) 40) (hs : SOK (xG X)) (h3 : at_ (xG X) 157 4 1) {b Lx : Nat} {sx : Nat → Int} (hx : SX X b Lx sx) (x4 p1 p2 p3 p4 : Int) (b1 : inb (x4 + 1) Lx) (e1 : sx (ix (x4 + 1)) = p1) {k n : Nat} (hk : k + 24 ≤ (xR X).cells ∧ n + 520 ≤ (xR X).slots) {Q : State → Prop} (M Mr : Mem) (hsv : ∀ j : Nat, j < 2 → ¬ M 37 j = 0 → at_ (xG X) (160 + 18 * j) 11 0) (hB : ∀ q, (xs X).heap.size ≤ q → xA X q) (hcl : CL (xG X) M) (hdj : (∃ M1, f_X11_save p1 M = some (.inr (), M1)) → M 37 (ix p1) = 0 → ∀ r ∈ gL (xG X), r ∉ blkL (ix p1)) (h : L_56 p1 p2 p3 p4 M = some Mr)
    (hE : (∃ M1, f_X11_save p1 M = some (.inr (), M1)) → ¬ M 37 (ix p1) = 0 → V X (k + 24) (n + 520) Q 3147 [some (.ref b), some (vr (xG X) 0), some (vr (xG X) 139), some (vr (xG X) 157), some (vi x4), none, none] [] Mr)
    (hE2 : (∀ M1, f_X11_save p1 M ≠ some (.inr (), M1)) → V X (k + 24) (n + 520) Q 3147 [some (.ref b), some (vr (xG X) 0), some (vr (xG X) 139), some (vr (xG X) 157), some (vi x4), none, none] [] Mr)
    (hE3 : (∃ M1, f_X11_save p1 M = some (.inr (), M1)) → M 37 (ix p1) = 0 → ∀ G1 : Gx, G1.2.2 = (xG X).2.2 → gL G1 = gL (xG X) ++ blkL (ix p1) → (∀ r ∈ gL (xG X), gad G1 r = gad (xG X) r) → Gd (xA X, G1, X.2.2) RL cL_law 7 (some .boolean) 40 → V (xA X, G1, X.2.2) (k + 24) (n + 520) Q 3147 [some (.ref b), some (vr (xG (xA X, G1, X.2.2)) 0), some (vr (xG (xA X, G1, X.2.2)) 139), some (vr (xG (xA X, G1, X.2.2)) 157), some (vi x4), none, none] [] Mr) : V X k n Q 3075 [some (.ref b), some (vr (xG X) 0), some (vr (xG X) 139), some (vr (xG X) 157), some (vi x4), none, none] [] M := by
  unfold L_56 at h
  refine x_aloadn hX dL_law_3075 rfl ?_
  refine x_qload hX dL_law_3076 rfl ?_
  refine x_iload hX dL_law_3077 rfl ?_
  refine x_iconst hX dL_law_3079 ?_
  refine x_iadd hX dL_law_3080 ?_
  refine x_sld hX hx dL_law_3081 b1 e1 ?_
  obtain ⟨r_1, M_2, er_1, h⟩ := cl2_of h
  obtain ⟨M_4, er_3, h⟩ := cl1_of h
  obtain ⟨r_5, er_5, h⟩ := cl1_of h
  by_cases hn : (∃ M1, f_X11_save p1 M = some (.inr (), M1)) ∧ M 37 (ix p1) = 0
  · have er0 := er_1
    obtain ⟨⟨M1, es⟩, hz⟩ := hn
    unfold f_L_save at er0
    rcases cx2_of er0 with ⟨e1', M1', ee, er0⟩ | ⟨r1', M1', er, er0⟩
    · rw [es] at ee; cases ee
    rw [es] at er
    cases er
    cases er0
    refine x_wSg (As := [vr (xG X) 0, vi p1]) (rest := []) hX dL_law_3082 (c_L_saveN (gk hX) (gl hX) hs p1 M hcl (hdj ⟨_, es⟩ hz) _ hz es) kL_save w_1607 rfl rfl rfl (Nat.le_of_ble_eq_true rfl) ⟨Nat.le_trans (Nat.add_le_add_left (Nat.le_of_ble_eq_true rfl : 19 ≤ 24) _) hk.1, Nat.le_trans (Nat.add_le_add_left (Nat.le_of_ble_eq_true rfl : 479 ≤ 520) _) hk.2⟩ hB (fun G1 t1 l1 a1 hY => ?_)
    have hs1 : SOK (xG (xA X, G1, X.2.2)) := fun i hi => by show i ∈ gL G1; rw [l1]; exact List.mem_append_left _ (hs i hi)
    have hS0 : gSz G1 = gSz (xG X) := by unfold gSz; rw [t1]
    have hx1 : SX (xA X, G1, X.2.2) b Lx sx := ⟨hx.1, hx.2.1, fun z => hx.2.2 (by have z' : gSz G1 ≤ b := z; rw [hS0] at z'; exact z')⟩
    have g0 : vr (xG X) 0 = vr (xG (xA X, G1, X.2.2)) 0 := by show Value.ref (gad (xG X) 0) = Value.ref (gad G1 0); rw [a1 0 (hs 0 (by decide))]
    have g1 : vr (xG X) 139 = vr (xG (xA X, G1, X.2.2)) 139 := by show Value.ref (gad (xG X) 139) = Value.ref (gad G1 139); rw [a1 139 (hs 139 (by decide))]
    have g2 : vr (xG X) 157 = vr (xG (xA X, G1, X.2.2)) 157 := by show Value.ref (gad (xG X) 157) = Value.ref (gad G1 157); rw [a1 157 h3.1]
    have HE := hE3 ⟨_, es⟩ hz G1 t1 l1 a1 hY
    show V (xA X, G1, X.2.2) (k + 19) (n + 479) Q 3085 [some (.ref b), some (vr (xG X) 0), some (vr (xG X) 139), some (vr (xG X) 157), some (vi x4), none, none] [vi 0] M_2
    rw [g0, g1, g2]
    refine x_istore (ls' := [some (.ref b), some (vr (xG (xA X, G1, X.2.2)) 0), some (vr (xG (xA X, G1, X.2.2)) 139), some (vr (xG (xA X, G1, X.2.2)) 157), some (vi x4), some (vi 0), none]) hY dL_law_3085 rfl rfl rfl ?_
    refine x_aloadn hY dL_law_3087 rfl ?_
    refine x_qload hY dL_law_3088 rfl ?_
    refine x_iload hY dL_law_3089 rfl ?_
    refine x_iconst hY dL_law_3091 ?_
    refine x_iadd hY dL_law_3092 ?_
    refine x_sld hY hx1 dL_law_3093 b1 e1 ?_
    refine x_callVv (t := 11) (As := [vi p1]) (rest := []) hY dL_law_3094 (c_X12_save (gk hY) (gl hY) hs1 p1 M_2 _ er_3) kX12_save vX12_save w_2353 (st139 hs1) rfl rfl rfl rfl (Nat.le_of_ble_eq_true rfl) ⟨Nat.le_trans (Nat.add_le_add_left (Nat.le_of_ble_eq_true rfl : 19 ≤ 24) _) hk.1, Nat.le_trans (Nat.add_le_add_left (Nat.le_of_ble_eq_true rfl : 479 ≤ 520) _) hk.2⟩ ?_
    refine x_aloadn hY dL_law_3097 rfl ?_
    refine x_callVi (t := 11) (As := []) (rest := []) hY dL_law_3098 (c_X12_thrown (gk hY) (gl hY) hs1  M_4 _ er_5) kX12_thrown vX12_thrown w_1727 (st139 hs1) rfl rfl rfl rfl (Nat.le_of_ble_eq_true rfl) ⟨Nat.le_trans (Nat.add_le_add_left (Nat.le_of_ble_eq_true rfl : 19 ≤ 24) _) hk.1, Nat.le_trans (Nat.add_le_add_left (Nat.le_of_ble_eq_true rfl : 479 ≤ 520) _) hk.2⟩ ?_
    refine x_iload hY dL_law_3101 rfl ?_
    refine x_icmp_eq (tgt := 3108) hY dL_law_3103 (by decide) rfl rfl (fun hc => ?_) (fun hc => ?_)
    · replace h := (if_pos hc).symm.trans h
      refine x_goto (tgt := 3147) hY dL_law_3108 (by decide) ?_
      cases h
      exact x_wid (k2 := k + 24) (n2 := n + 520) (Nat.add_le_add_left (Nat.le_of_ble_eq_true rfl : 19 ≤ 24) _) (Nat.add_le_add_left (Nat.le_of_ble_eq_true rfl : 479 ≤ 520) _) (x_weak [true, true, true, true, true, false, false] rfl HE)
    · replace h := (if_neg hc).symm.trans h
      cases h
  · have HE : V X (k + 24) (n + 520) Q 3147 [some (.ref b), some (vr (xG X) 0), some (vr (xG X) 139), some (vr (xG X) 157), some (vi x4), none, none] [] Mr := by
      by_cases hq : ∃ M1, f_X11_save p1 M = some (.inr (), M1)
      · exact hE hq (fun z => hn ⟨hq, z⟩)
      · exact hE2 (fun M1 z => hq ⟨M1, z⟩)
    refine x_wS (As := [vr (xG X) 0, vi p1]) (rest := []) hX dL_law_3082 (c_L_saveO (gk hX) (gl hX) hs p1 M hsv (fun q z => hn ⟨q, z⟩) _ _ er_1) kL_save w_1607 rfl rfl rfl (Nat.le_of_ble_eq_true rfl) ⟨Nat.le_trans (Nat.add_le_add_left (Nat.le_of_ble_eq_true rfl : 1 ≤ 24) _) hk.1, Nat.le_trans (Nat.add_le_add_left (Nat.le_of_ble_eq_true rfl : 6 ≤ 520) _) hk.2⟩ ?_
    show V X (k + 1) (n + 6) Q 3085 [some (.ref b), some (vr (xG X) 0), some (vr (xG X) 139), some (vr (xG X) 157), some (vi x4), none, none] [vi r_1] M_2
    refine x_istore (ls' := [some (.ref b), some (vr (xG X) 0), some (vr (xG X) 139), some (vr (xG X) 157), some (vi x4), some (vi r_1), none]) hX dL_law_3085 rfl rfl rfl ?_
    refine x_aloadn hX dL_law_3087 rfl ?_
    refine x_qload hX dL_law_3088 rfl ?_
    refine x_iload hX dL_law_3089 rfl ?_
    refine x_iconst hX dL_law_3091 ?_
    refine x_iadd hX dL_law_3092 ?_
    refine x_sld hX hx dL_law_3093 b1 e1 ?_
    refine x_callVv (t := 11) (As := [vi p1]) (rest := []) hX dL_law_3094 (c_X12_save (gk hX) (gl hX) hs p1 M_2 _ er_3) kX12_save vX12_save w_2353 (st139 hs) rfl rfl rfl rfl (Nat.le_of_ble_eq_true rfl) ⟨Nat.le_trans (Nat.add_le_add_left (Nat.le_of_ble_eq_true rfl : 1 ≤ 24) _) hk.1, Nat.le_trans (Nat.add_le_add_left (Nat.le_of_ble_eq_true rfl : 6 ≤ 520) _) hk.2⟩ ?_
    refine x_aloadn hX dL_law_3097 rfl ?_
    refine x_callVi (t := 11) (As := []) (rest := []) hX dL_law_3098 (c_X12_thrown (gk hX) (gl hX) hs  M_4 _ er_5) kX12_thrown vX12_thrown w_1727 (st139 hs) rfl rfl rfl rfl (Nat.le_of_ble_eq_true rfl) ⟨Nat.le_trans (Nat.add_le_add_left (Nat.le_of_ble_eq_true rfl : 1 ≤ 24) _) hk.1, Nat.le_trans (Nat.add_le_add_left (Nat.le_of_ble_eq_true rfl : 6 ≤ 520) _) hk.2⟩ ?_
    refine x_iload hX dL_law_3101 rfl ?_
    refine x_icmp_eq (tgt := 3108) hX dL_law_3103 (by decide) rfl rfl (fun hc => ?_) (fun hc => ?_)
    · replace h := (if_pos hc).symm.trans h
      refine x_goto (tgt := 3147) hX dL_law_3108 (by decide) ?_
      cases h
      exact x_wid (k2 := k + 24) (n2 := n + 520) (Nat.add_le_add_left (Nat.le_of_ble_eq_true rfl : 1 ≤ 24) _) (Nat.add_le_add_left (Nat.le_of_ble_eq_true rfl : 6 ≤ 520) _) (x_weak [true, true, true, true, true, false, false] rfl HE)
    · replace h := (if_neg hc).symm.trans h
      cases h
