-- ===== the constructors =====
set_option maxRecDepth 100000 in
set_option maxHeartbeats 4000000 in
theorem ci_X3_2 {l : Launch} {G : Gx} (hl : l.stackTraces = false) : Ci l G mX3_init 1 2 5 2 3 [3, 4, 2] (fun _ _ => 0) := by
  refine Ci_of (own := RX3) (cc := cX3_init) (nL := 1) hl kX3_init rfl rfl rfl rfl (Nat.le_of_ble_eq_true rfl) rfl rfl (fun X h0 eG el hX hp hA => ?_)
  have ht0 : (gO G).2.2 = (xG X).2.2 := by rw [eG]
  have L0 : gL (gO G) = [] := rfl
  refine p_aload (j := 0) hX dX3_init_0 rfl ?_
  refine p_obj hX dX3_init_1 oi_X3 (Nat.le_of_ble_eq_true rfl) ?_
  refine p_aload (j := 0) hX dX3_init_4 rfl ?_
  refine p_iconst hX dX3_init_5 ?_
  refine p_arrI (j := 3) (N := 3) hX hp ht0 dX3_init_6 w_248 (by decide +kernel) (by decide +kernel) (Nat.le_of_ble_eq_true rfl) (nin L0 (by decide +kernel)) (by decide) (CL_of L0 (by decide +kernel) (no6 (by decide +kernel))) (DNI_of L0 (by decide +kernel)) (Nat.le_of_ble_eq_true rfl) (Nat.le_of_ble_eq_true rfl) (fun G1 ht1 l1 a1 => ?_)
  have L1 : gL G1 = [3] := by rw [l1, L0]; rfl
  rw [mjz]
  refine p_putR (f := 4) (off := 1) (j := 3) (C := RX3) (T := TX3) (N := 9) (ty := tyX3) hX hp dX3_init_8 rfl (Nat.le_of_ble_eq_true rfl) rfl rfl w_209 inws_3 tyX3_ok nmX3 rfl (fun a => ⟨rfl, rfl⟩) rfl rfl ?_
  refine p_aload (j := 0) hX dX3_init_11 rfl ?_
  refine p_iconst hX dX3_init_12 ?_
  refine p_arrI (j := 4) (N := 2) hX hp ht1 dX3_init_13 w_248 (by decide +kernel) (by decide +kernel) (Nat.le_of_ble_eq_true rfl) (nin L1 (by decide +kernel)) (by decide) (CL_of L1 (by decide +kernel) (no6 (by decide +kernel))) (DNI_of L1 (by decide +kernel)) (Nat.le_of_ble_eq_true rfl) (Nat.le_of_ble_eq_true rfl) (fun G2 ht2 l2 a2 => ?_)
  have L2 : gL G2 = [3, 4] := by rw [l2, L1]; rfl
  rw [mjz]
  refine p_putR (f := 8) (off := 2) (j := 4) (C := RX3) (T := TX3) (N := 9) (ty := tyX3) hX hp dX3_init_15 rfl (Nat.le_of_ble_eq_true rfl) rfl rfl w_225 inws_3 tyX3_ok nmX3 rfl (fun a => ⟨rfl, rfl⟩) rfl rfl ?_
  refine p_abs hX ht2 (all_of (by decide +kernel)) (by decide +kernel) (nin L2 (by decide +kernel)) (DNI_of L2 (by decide +kernel)) (CL_of L2 (by decide +kernel) (no6 (by decide +kernel))) (by rw [L2]; decide +kernel) (fun G3 ht3 l3 gi a3 hY => ?_)
  have L3 : gL G3 = [3, 4, 2] := by rw [l3, L2]; rfl
  exact x_cret (X := (xA X, G3, X.2.2)) hY (ht3.trans (by rw [eG]; rfl)) gi hA L3 dX3_init_18 (Nat.le_of_ble_eq_true rfl) (Nat.le_of_ble_eq_true rfl) rfl
set_option maxRecDepth 100000 in
set_option maxHeartbeats 4000000 in
theorem ci_X2_5 {l : Launch} {G : Gx} (hl : l.stackTraces = false) : Ci l G mX2_init 1 4 96 5 2 [6, 7, 8, 9, 5] (fun _ _ => 0) := by
  refine Ci_of (own := RX2) (cc := cX2_init) (nL := 1) hl kX2_init rfl rfl rfl rfl (Nat.le_of_ble_eq_true rfl) rfl rfl (fun X h0 eG el hX hp hA => ?_)
  have ht0 : (gO G).2.2 = (xG X).2.2 := by rw [eG]
  have L0 : gL (gO G) = [] := rfl
  refine p_aload (j := 0) hX dX2_init_0 rfl ?_
  refine p_obj hX dX2_init_1 oi_X2 (Nat.le_of_ble_eq_true rfl) ?_
  refine p_aload (j := 0) hX dX2_init_4 rfl ?_
  refine p_bipush hX dX2_init_5 bp_24 ?_
  refine p_arrI (j := 6) (N := 24) hX hp ht0 dX2_init_7 w_248 (by decide +kernel) (by decide +kernel) (Nat.le_of_ble_eq_true rfl) (nin L0 (by decide +kernel)) (by decide) (CL_of L0 (by decide +kernel) (no6 (by decide +kernel))) (DNI_of L0 (by decide +kernel)) (Nat.le_of_ble_eq_true rfl) (Nat.le_of_ble_eq_true rfl) (fun G1 ht1 l1 a1 => ?_)
  have L1 : gL G1 = [6] := by rw [l1, L0]; rfl
  rw [mjz]
  refine p_putR (f := 1) (off := 1) (j := 6) (C := RX2) (T := TX2) (N := 5) (ty := tyX2) hX hp dX2_init_9 rfl (Nat.le_of_ble_eq_true rfl) rfl rfl w_260 inws_2 tyX2_ok nmX2 rfl (fun a => ⟨rfl, rfl⟩) rfl rfl ?_
  refine p_aload (j := 0) hX dX2_init_12 rfl ?_
  refine p_bipush hX dX2_init_13 bp_24 ?_
  refine p_arrI (j := 7) (N := 24) hX hp ht1 dX2_init_15 w_248 (by decide +kernel) (by decide +kernel) (Nat.le_of_ble_eq_true rfl) (nin L1 (by decide +kernel)) (by decide) (CL_of L1 (by decide +kernel) (no6 (by decide +kernel))) (DNI_of L1 (by decide +kernel)) (Nat.le_of_ble_eq_true rfl) (Nat.le_of_ble_eq_true rfl) (fun G2 ht2 l2 a2 => ?_)
  have L2 : gL G2 = [6, 7] := by rw [l2, L1]; rfl
  rw [mjz]
  refine p_putR (f := 2) (off := 2) (j := 7) (C := RX2) (T := TX2) (N := 5) (ty := tyX2) hX hp dX2_init_17 rfl (Nat.le_of_ble_eq_true rfl) rfl rfl w_263 inws_2 tyX2_ok nmX2 rfl (fun a => ⟨rfl, rfl⟩) rfl rfl ?_
  refine p_aload (j := 0) hX dX2_init_20 rfl ?_
  refine p_bipush hX dX2_init_21 bp_24 ?_
  refine p_arrI (j := 8) (N := 24) hX hp ht2 dX2_init_23 w_248 (by decide +kernel) (by decide +kernel) (Nat.le_of_ble_eq_true rfl) (nin L2 (by decide +kernel)) (by decide) (CL_of L2 (by decide +kernel) (no6 (by decide +kernel))) (DNI_of L2 (by decide +kernel)) (Nat.le_of_ble_eq_true rfl) (Nat.le_of_ble_eq_true rfl) (fun G3 ht3 l3 a3 => ?_)
  have L3 : gL G3 = [6, 7, 8] := by rw [l3, L2]; rfl
  rw [mjz]
  refine p_putR (f := 3) (off := 3) (j := 8) (C := RX2) (T := TX2) (N := 5) (ty := tyX2) hX hp dX2_init_25 rfl (Nat.le_of_ble_eq_true rfl) rfl rfl w_265 inws_2 tyX2_ok nmX2 rfl (fun a => ⟨rfl, rfl⟩) rfl rfl ?_
  refine p_aload (j := 0) hX dX2_init_28 rfl ?_
  refine p_bipush hX dX2_init_29 bp_24 ?_
  refine p_arrI (j := 9) (N := 24) hX hp ht3 dX2_init_31 w_248 (by decide +kernel) (by decide +kernel) (Nat.le_of_ble_eq_true rfl) (nin L3 (by decide +kernel)) (by decide) (CL_of L3 (by decide +kernel) (no6 (by decide +kernel))) (DNI_of L3 (by decide +kernel)) (Nat.le_of_ble_eq_true rfl) (Nat.le_of_ble_eq_true rfl) (fun G4 ht4 l4 a4 => ?_)
  have L4 : gL G4 = [6, 7, 8, 9] := by rw [l4, L3]; rfl
  rw [mjz]
  refine p_putR (f := 4) (off := 4) (j := 9) (C := RX2) (T := TX2) (N := 5) (ty := tyX2) hX hp dX2_init_33 rfl (Nat.le_of_ble_eq_true rfl) rfl rfl w_267 inws_2 tyX2_ok nmX2 rfl (fun a => ⟨rfl, rfl⟩) rfl rfl ?_
  refine p_abs hX ht4 (all_of (by decide +kernel)) (by decide +kernel) (nin L4 (by decide +kernel)) (DNI_of L4 (by decide +kernel)) (CL_of L4 (by decide +kernel) (no6 (by decide +kernel))) (by rw [L4]; decide +kernel) (fun G5 ht5 l5 gi a5 hY => ?_)
  have L5 : gL G5 = [6, 7, 8, 9, 5] := by rw [l5, L4]; rfl
  exact x_cret (X := (xA X, G5, X.2.2)) hY (ht5.trans (by rw [eG]; rfl)) gi hA L5 dX2_init_36 (Nat.le_of_ble_eq_true rfl) (Nat.le_of_ble_eq_true rfl) rfl
set_option maxRecDepth 100000 in
set_option maxHeartbeats 4000000 in
theorem ci_X5_10 {l : Launch} {G : Gx} (hl : l.stackTraces = false) : Ci l G mX5_init 1 6 336 10 5 [11, 12, 13, 14, 15, 16, 10] (fun _ _ => 0) := by
  refine Ci_of (own := RX5) (cc := cX5_init) (nL := 1) hl kX5_init rfl rfl rfl rfl (Nat.le_of_ble_eq_true rfl) rfl rfl (fun X h0 eG el hX hp hA => ?_)
  have ht0 : (gO G).2.2 = (xG X).2.2 := by rw [eG]
  have L0 : gL (gO G) = [] := rfl
  refine p_aload (j := 0) hX dX5_init_0 rfl ?_
  refine p_obj hX dX5_init_1 oi_X5 (Nat.le_of_ble_eq_true rfl) ?_
  refine p_aload (j := 0) hX dX5_init_4 rfl ?_
  refine p_bipush hX dX5_init_5 bp_16 ?_
  refine p_arrI (j := 11) (N := 16) hX hp ht0 dX5_init_7 w_248 (by decide +kernel) (by decide +kernel) (Nat.le_of_ble_eq_true rfl) (nin L0 (by decide +kernel)) (by decide) (CL_of L0 (by decide +kernel) (no6 (by decide +kernel))) (DNI_of L0 (by decide +kernel)) (Nat.le_of_ble_eq_true rfl) (Nat.le_of_ble_eq_true rfl) (fun G1 ht1 l1 a1 => ?_)
  have L1 : gL G1 = [11] := by rw [l1, L0]; rfl
  rw [mjz]
  refine p_putR (f := 2) (off := 1) (j := 11) (C := RX5) (T := TX5) (N := 8) (ty := tyX5) hX hp dX5_init_9 rfl (Nat.le_of_ble_eq_true rfl) rfl rfl w_295 inws_5 tyX5_ok nmX5 rfl (fun a => ⟨rfl, rfl⟩) rfl rfl ?_
  refine p_aload (j := 0) hX dX5_init_12 rfl ?_
  refine p_bipush hX dX5_init_13 bp_16 ?_
  refine p_arrI (j := 12) (N := 16) hX hp ht1 dX5_init_15 w_248 (by decide +kernel) (by decide +kernel) (Nat.le_of_ble_eq_true rfl) (nin L1 (by decide +kernel)) (by decide) (CL_of L1 (by decide +kernel) (no6 (by decide +kernel))) (DNI_of L1 (by decide +kernel)) (Nat.le_of_ble_eq_true rfl) (Nat.le_of_ble_eq_true rfl) (fun G2 ht2 l2 a2 => ?_)
  have L2 : gL G2 = [11, 12] := by rw [l2, L1]; rfl
  rw [mjz]
  refine p_putR (f := 3) (off := 2) (j := 12) (C := RX5) (T := TX5) (N := 8) (ty := tyX5) hX hp dX5_init_17 rfl (Nat.le_of_ble_eq_true rfl) rfl rfl w_299 inws_5 tyX5_ok nmX5 rfl (fun a => ⟨rfl, rfl⟩) rfl rfl ?_
  refine p_aload (j := 0) hX dX5_init_20 rfl ?_
  refine p_bipush hX dX5_init_21 bp_16 ?_
  refine p_arrI (j := 13) (N := 16) hX hp ht2 dX5_init_23 w_248 (by decide +kernel) (by decide +kernel) (Nat.le_of_ble_eq_true rfl) (nin L2 (by decide +kernel)) (by decide) (CL_of L2 (by decide +kernel) (no6 (by decide +kernel))) (DNI_of L2 (by decide +kernel)) (Nat.le_of_ble_eq_true rfl) (Nat.le_of_ble_eq_true rfl) (fun G3 ht3 l3 a3 => ?_)
  have L3 : gL G3 = [11, 12, 13] := by rw [l3, L2]; rfl
  rw [mjz]
  refine p_putR (f := 4) (off := 3) (j := 13) (C := RX5) (T := TX5) (N := 8) (ty := tyX5) hX hp dX5_init_25 rfl (Nat.le_of_ble_eq_true rfl) rfl rfl w_302 inws_5 tyX5_ok nmX5 rfl (fun a => ⟨rfl, rfl⟩) rfl rfl ?_
  refine p_aload (j := 0) hX dX5_init_28 rfl ?_
  refine p_bipush hX dX5_init_29 bp_96 ?_
  refine p_arrI (j := 14) (N := 96) hX hp ht3 dX5_init_31 w_248 (by decide +kernel) (by decide +kernel) (Nat.le_of_ble_eq_true rfl) (nin L3 (by decide +kernel)) (by decide) (CL_of L3 (by decide +kernel) (no6 (by decide +kernel))) (DNI_of L3 (by decide +kernel)) (Nat.le_of_ble_eq_true rfl) (Nat.le_of_ble_eq_true rfl) (fun G4 ht4 l4 a4 => ?_)
  have L4 : gL G4 = [11, 12, 13, 14] := by rw [l4, L3]; rfl
  rw [mjz]
  refine p_putR (f := 5) (off := 4) (j := 14) (C := RX5) (T := TX5) (N := 8) (ty := tyX5) hX hp dX5_init_33 rfl (Nat.le_of_ble_eq_true rfl) rfl rfl w_305 inws_5 tyX5_ok nmX5 rfl (fun a => ⟨rfl, rfl⟩) rfl rfl ?_
  refine p_aload (j := 0) hX dX5_init_36 rfl ?_
  refine p_bipush hX dX5_init_37 bp_96 ?_
  refine p_arrI (j := 15) (N := 96) hX hp ht4 dX5_init_39 w_248 (by decide +kernel) (by decide +kernel) (Nat.le_of_ble_eq_true rfl) (nin L4 (by decide +kernel)) (by decide) (CL_of L4 (by decide +kernel) (no6 (by decide +kernel))) (DNI_of L4 (by decide +kernel)) (Nat.le_of_ble_eq_true rfl) (Nat.le_of_ble_eq_true rfl) (fun G5 ht5 l5 a5 => ?_)
  have L5 : gL G5 = [11, 12, 13, 14, 15] := by rw [l5, L4]; rfl
  rw [mjz]
  refine p_putR (f := 6) (off := 5) (j := 15) (C := RX5) (T := TX5) (N := 8) (ty := tyX5) hX hp dX5_init_41 rfl (Nat.le_of_ble_eq_true rfl) rfl rfl w_307 inws_5 tyX5_ok nmX5 rfl (fun a => ⟨rfl, rfl⟩) rfl rfl ?_
  refine p_aload (j := 0) hX dX5_init_44 rfl ?_
  refine p_bipush hX dX5_init_45 bp_96 ?_
  refine p_arrI (j := 16) (N := 96) hX hp ht5 dX5_init_47 w_248 (by decide +kernel) (by decide +kernel) (Nat.le_of_ble_eq_true rfl) (nin L5 (by decide +kernel)) (by decide) (CL_of L5 (by decide +kernel) (no6 (by decide +kernel))) (DNI_of L5 (by decide +kernel)) (Nat.le_of_ble_eq_true rfl) (Nat.le_of_ble_eq_true rfl) (fun G6 ht6 l6 a6 => ?_)
  have L6 : gL G6 = [11, 12, 13, 14, 15, 16] := by rw [l6, L5]; rfl
  rw [mjz]
  refine p_putR (f := 7) (off := 6) (j := 16) (C := RX5) (T := TX5) (N := 8) (ty := tyX5) hX hp dX5_init_49 rfl (Nat.le_of_ble_eq_true rfl) rfl rfl w_309 inws_5 tyX5_ok nmX5 rfl (fun a => ⟨rfl, rfl⟩) rfl rfl ?_
  refine p_abs hX ht6 (all_of (by decide +kernel)) (by decide +kernel) (nin L6 (by decide +kernel)) (DNI_of L6 (by decide +kernel)) (CL_of L6 (by decide +kernel) (no6 (by decide +kernel))) (by rw [L6]; decide +kernel) (fun G7 ht7 l7 gi a7 hY => ?_)
  have L7 : gL G7 = [11, 12, 13, 14, 15, 16, 10] := by rw [l7, L6]; rfl
  exact x_cret (X := (xA X, G7, X.2.2)) hY (ht7.trans (by rw [eG]; rfl)) gi hA L7 dX5_init_52 (Nat.le_of_ble_eq_true rfl) (Nat.le_of_ble_eq_true rfl) rfl
set_option maxRecDepth 100000 in
set_option maxHeartbeats 4000000 in
theorem ci_X0_17 {l : Launch} {G : Gx} (hl : l.stackTraces = false) : Ci l G mX0_init 1 1 8 17 0 [18, 17] (fun _ _ => 0) := by
  refine Ci_of (own := RX0) (cc := cX0_init) (nL := 1) hl kX0_init rfl rfl rfl rfl (Nat.le_of_ble_eq_true rfl) rfl rfl (fun X h0 eG el hX hp hA => ?_)
  have ht0 : (gO G).2.2 = (xG X).2.2 := by rw [eG]
  have L0 : gL (gO G) = [] := rfl
  refine p_aload (j := 0) hX dX0_init_0 rfl ?_
  refine p_obj hX dX0_init_1 oi_X0 (Nat.le_of_ble_eq_true rfl) ?_
  refine p_aload (j := 0) hX dX0_init_4 rfl ?_
  refine p_bipush hX dX0_init_5 bp_8 ?_
  refine p_arrI (j := 18) (N := 8) hX hp ht0 dX0_init_7 w_248 (by decide +kernel) (by decide +kernel) (Nat.le_of_ble_eq_true rfl) (nin L0 (by decide +kernel)) (by decide) (CL_of L0 (by decide +kernel) (no6 (by decide +kernel))) (DNI_of L0 (by decide +kernel)) (Nat.le_of_ble_eq_true rfl) (Nat.le_of_ble_eq_true rfl) (fun G1 ht1 l1 a1 => ?_)
  have L1 : gL G1 = [18] := by rw [l1, L0]; rfl
  rw [mjz]
  refine p_putR (f := 1) (off := 1) (j := 18) (C := RX0) (T := TX0) (N := 2) (ty := tyX0) hX hp dX0_init_9 rfl (Nat.le_of_ble_eq_true rfl) rfl rfl w_341 inws_0 tyX0_ok nmX0 rfl (fun a => ⟨rfl, rfl⟩) rfl rfl ?_
  refine p_abs hX ht1 (all_of (by decide +kernel)) (by decide +kernel) (nin L1 (by decide +kernel)) (DNI_of L1 (by decide +kernel)) (CL_of L1 (by decide +kernel) (no6 (by decide +kernel))) (by rw [L1]; decide +kernel) (fun G2 ht2 l2 gi a2 hY => ?_)
  have L2 : gL G2 = [18, 17] := by rw [l2, L1]; rfl
  exact x_cret (X := (xA X, G2, X.2.2)) hY (ht2.trans (by rw [eG]; rfl)) gi hA L2 dX0_init_12 (Nat.le_of_ble_eq_true rfl) (Nat.le_of_ble_eq_true rfl) rfl
set_option maxRecDepth 100000 in
set_option maxHeartbeats 4000000 in
theorem ci_X1_1 {l : Launch} {G : Gx} (hl : l.stackTraces = false) {Mr1 : Mem} (er1 : f_X3_reset 2 (fun _ _ => 0) = some Mr1) : Ci l G mX1_init 4 17 469 1 1 [3, 4, 2, 6, 7, 8, 9, 5, 11, 12, 13, 14, 15, 16, 10, 18, 17, 1] Mr1 := by
  refine Ci_of (own := RX1) (cc := cX1_init) (nL := 1) hl kX1_init rfl rfl rfl rfl (Nat.le_of_ble_eq_true rfl) rfl rfl (fun X h0 eG el hX hp hA => ?_)
  have ht0 : (gO G).2.2 = (xG X).2.2 := by rw [eG]
  have L0 : gL (gO G) = [] := rfl
  refine p_aload (j := 0) hX dX1_init_0 rfl ?_
  refine p_obj hX dX1_init_1 oi_X1 (Nat.le_of_ble_eq_true rfl) ?_
  refine p_aload (j := 0) hX dX1_init_4 rfl ?_
  refine p_new (Ls := [3, 4, 2]) (Ms := (fun _ _ => 0)) hX hp ht0 dX1_init_5 dX1_init_8 dX1_init_9 nw_X1_11 (ci_X3_2 (gl hX)) rfl (Nat.le_of_ble_eq_true rfl) (Nat.le_of_ble_eq_true rfl) (Nat.le_of_ble_eq_true rfl) (dis_of L0 (by decide +kernel)) (by decide) (by decide) (CL_of L0 (by decide +kernel) (no6 (by decide +kernel))) (fun Gs e => CL_of e (by decide +kernel) (no6 (by decide +kernel))) (DNI_of L0 (by decide +kernel)) (fun G1 ht1 l1 a1 => ?_)
  have L1 : gL G1 = [3, 4, 2] := by rw [l1, L0]; rfl
  rw [mjz]
  refine p_putR (f := 0) (off := 1) (j := 2) (C := RX1) (T := TX1) (N := 4) (ty := tyX1) hX hp dX1_init_12 rfl (Nat.le_of_ble_eq_true rfl) rfl rfl w_364 inws_1 tyX1_ok nmX1 rfl (fun a => ⟨rfl, rfl⟩) rfl rfl ?_
  refine p_aload (j := 0) hX dX1_init_15 rfl ?_
  refine p_new (Ls := [6, 7, 8, 9, 5]) (Ms := (fun _ _ => 0)) hX hp ht1 dX1_init_16 dX1_init_19 dX1_init_20 nw_X1_20 (ci_X2_5 (gl hX)) rfl (Nat.le_of_ble_eq_true rfl) (Nat.le_of_ble_eq_true rfl) (Nat.le_of_ble_eq_true rfl) (dis_of L1 (by decide +kernel)) (by decide) (by decide) (CL_of L1 (by decide +kernel) (no6 (by decide +kernel))) (fun Gs e => CL_of e (by decide +kernel) (no6 (by decide +kernel))) (DNI_of L1 (by decide +kernel)) (fun G2 ht2 l2 a2 => ?_)
  have L2 : gL G2 = [3, 4, 2, 6, 7, 8, 9, 5] := by rw [l2, L1]; rfl
  rw [mjz]
  refine p_putR (f := 1) (off := 4) (j := 5) (C := RX1) (T := TX1) (N := 4) (ty := tyX1) hX hp dX1_init_23 rfl (Nat.le_of_ble_eq_true rfl) rfl rfl w_371 inws_1 tyX1_ok nmX1 rfl (fun a => ⟨rfl, rfl⟩) rfl rfl ?_
  refine p_aload (j := 0) hX dX1_init_26 rfl ?_
  refine p_new (Ls := [11, 12, 13, 14, 15, 16, 10]) (Ms := (fun _ _ => 0)) hX hp ht2 dX1_init_27 dX1_init_30 dX1_init_31 nw_X1_27 (ci_X5_10 (gl hX)) rfl (Nat.le_of_ble_eq_true rfl) (Nat.le_of_ble_eq_true rfl) (Nat.le_of_ble_eq_true rfl) (dis_of L2 (by decide +kernel)) (by decide) (by decide) (CL_of L2 (by decide +kernel) (no6 (by decide +kernel))) (fun Gs e => CL_of e (by decide +kernel) (no6 (by decide +kernel))) (DNI_of L2 (by decide +kernel)) (fun G3 ht3 l3 a3 => ?_)
  have L3 : gL G3 = [3, 4, 2, 6, 7, 8, 9, 5, 11, 12, 13, 14, 15, 16, 10] := by rw [l3, L2]; rfl
  rw [mjz]
  refine p_putR (f := 2) (off := 9) (j := 10) (C := RX1) (T := TX1) (N := 4) (ty := tyX1) hX hp dX1_init_34 rfl (Nat.le_of_ble_eq_true rfl) rfl rfl w_375 inws_1 tyX1_ok nmX1 rfl (fun a => ⟨rfl, rfl⟩) rfl rfl ?_
  refine p_aload (j := 0) hX dX1_init_37 rfl ?_
  refine p_new (Ls := [18, 17]) (Ms := (fun _ _ => 0)) hX hp ht3 dX1_init_38 dX1_init_41 dX1_init_42 nw_X1_34 (ci_X0_17 (gl hX)) rfl (Nat.le_of_ble_eq_true rfl) (Nat.le_of_ble_eq_true rfl) (Nat.le_of_ble_eq_true rfl) (dis_of L3 (by decide +kernel)) (by decide) (by decide) (CL_of L3 (by decide +kernel) (no6 (by decide +kernel))) (fun Gs e => CL_of e (by decide +kernel) (no6 (by decide +kernel))) (DNI_of L3 (by decide +kernel)) (fun G4 ht4 l4 a4 => ?_)
  have L4 : gL G4 = [3, 4, 2, 6, 7, 8, 9, 5, 11, 12, 13, 14, 15, 16, 10, 18, 17] := by rw [l4, L3]; rfl
  rw [mjz]
  refine p_putR (f := 3) (off := 16) (j := 17) (C := RX1) (T := TX1) (N := 4) (ty := tyX1) hX hp dX1_init_45 rfl (Nat.le_of_ble_eq_true rfl) rfl rfl w_380 inws_1 tyX1_ok nmX1 rfl (fun a => ⟨rfl, rfl⟩) rfl rfl ?_
  refine p_abs hX ht4 (all_of (by decide +kernel)) (by decide +kernel) (nin L4 (by decide +kernel)) (DNI_of L4 (by decide +kernel)) (CL_of L4 (by decide +kernel) (no6 (by decide +kernel))) (by rw [L4]; decide +kernel) (fun G5 ht5 l5 gi a5 hY => ?_)
  have L5 : gL G5 = [3, 4, 2, 6, 7, 8, 9, 5, 11, 12, 13, 14, 15, 16, 10, 18, 17, 1] := by rw [l5, L4]; rfl
  have e0 : (Value.ref h0) = vr (xG (xA X, G5, X.2.2)) 1 := by show _ = Value.ref (gad G5 1); rw [gi]
  rw [e0]
  refine x_aloadn hY dX1_init_48 rfl ?_
  have hi : at_ (xG (xA X, G5, X.2.2)) 1 11 0 := ⟨by show _ ∈ gL G5; rw [L5]; decide +kernel, by decide +kernel⟩
  refine x_getRj (j := 2) hY dX1_init_49 fl_X1_12 rfl hi rfl ?_
  refine x_callVv (t := 3) (As := []) (rest := []) hY dX1_init_52 (c_X3_reset (gk hY) (gl hY) (fo_1_0 (gk hY) hi) _ _ er1) kX3_reset vX3_reset w_352 (fo_1_0 (gk hY) hi) rfl rfl rfl rfl (Nat.le_of_ble_eq_true rfl) ⟨Nat.le_trans (Nat.le_of_ble_eq_true rfl) (Nat.le_of_eq hp.2.2.1.symm), Nat.le_trans (Nat.le_of_ble_eq_true rfl) (Nat.le_of_eq hp.2.2.2.symm)⟩ ?_
  exact x_cret (X := (xA X, G5, X.2.2)) hY (ht5.trans (by rw [eG]; rfl)) gi hA L5 dX1_init_55 (Nat.le_of_ble_eq_true rfl) (Nat.le_of_ble_eq_true rfl) rfl
set_option maxRecDepth 100000 in
set_option maxHeartbeats 4000000 in
theorem ci_X3_20 {l : Launch} {G : Gx} (hl : l.stackTraces = false) : Ci l G mX3_init 1 2 5 20 3 [21, 22, 20] (fun _ _ => 0) := by
  refine Ci_of (own := RX3) (cc := cX3_init) (nL := 1) hl kX3_init rfl rfl rfl rfl (Nat.le_of_ble_eq_true rfl) rfl rfl (fun X h0 eG el hX hp hA => ?_)
  have ht0 : (gO G).2.2 = (xG X).2.2 := by rw [eG]
  have L0 : gL (gO G) = [] := rfl
  refine p_aload (j := 0) hX dX3_init_0 rfl ?_
  refine p_obj hX dX3_init_1 oi_X3 (Nat.le_of_ble_eq_true rfl) ?_
  refine p_aload (j := 0) hX dX3_init_4 rfl ?_
  refine p_iconst hX dX3_init_5 ?_
  refine p_arrI (j := 21) (N := 3) hX hp ht0 dX3_init_6 w_248 (by decide +kernel) (by decide +kernel) (Nat.le_of_ble_eq_true rfl) (nin L0 (by decide +kernel)) (by decide) (CL_of L0 (by decide +kernel) (no6 (by decide +kernel))) (DNI_of L0 (by decide +kernel)) (Nat.le_of_ble_eq_true rfl) (Nat.le_of_ble_eq_true rfl) (fun G1 ht1 l1 a1 => ?_)
  have L1 : gL G1 = [21] := by rw [l1, L0]; rfl
  rw [mjz]
  refine p_putR (f := 4) (off := 1) (j := 21) (C := RX3) (T := TX3) (N := 9) (ty := tyX3) hX hp dX3_init_8 rfl (Nat.le_of_ble_eq_true rfl) rfl rfl w_209 inws_3 tyX3_ok nmX3 rfl (fun a => ⟨rfl, rfl⟩) rfl rfl ?_
  refine p_aload (j := 0) hX dX3_init_11 rfl ?_
  refine p_iconst hX dX3_init_12 ?_
  refine p_arrI (j := 22) (N := 2) hX hp ht1 dX3_init_13 w_248 (by decide +kernel) (by decide +kernel) (Nat.le_of_ble_eq_true rfl) (nin L1 (by decide +kernel)) (by decide) (CL_of L1 (by decide +kernel) (no6 (by decide +kernel))) (DNI_of L1 (by decide +kernel)) (Nat.le_of_ble_eq_true rfl) (Nat.le_of_ble_eq_true rfl) (fun G2 ht2 l2 a2 => ?_)
  have L2 : gL G2 = [21, 22] := by rw [l2, L1]; rfl
  rw [mjz]
  refine p_putR (f := 8) (off := 2) (j := 22) (C := RX3) (T := TX3) (N := 9) (ty := tyX3) hX hp dX3_init_15 rfl (Nat.le_of_ble_eq_true rfl) rfl rfl w_225 inws_3 tyX3_ok nmX3 rfl (fun a => ⟨rfl, rfl⟩) rfl rfl ?_
  refine p_abs hX ht2 (all_of (by decide +kernel)) (by decide +kernel) (nin L2 (by decide +kernel)) (DNI_of L2 (by decide +kernel)) (CL_of L2 (by decide +kernel) (no6 (by decide +kernel))) (by rw [L2]; decide +kernel) (fun G3 ht3 l3 gi a3 hY => ?_)
  have L3 : gL G3 = [21, 22, 20] := by rw [l3, L2]; rfl
  exact x_cret (X := (xA X, G3, X.2.2)) hY (ht3.trans (by rw [eG]; rfl)) gi hA L3 dX3_init_18 (Nat.le_of_ble_eq_true rfl) (Nat.le_of_ble_eq_true rfl) rfl
set_option maxRecDepth 100000 in
set_option maxHeartbeats 4000000 in
theorem ci_X2_23 {l : Launch} {G : Gx} (hl : l.stackTraces = false) : Ci l G mX2_init 1 4 96 23 2 [24, 25, 26, 27, 23] (fun _ _ => 0) := by
  refine Ci_of (own := RX2) (cc := cX2_init) (nL := 1) hl kX2_init rfl rfl rfl rfl (Nat.le_of_ble_eq_true rfl) rfl rfl (fun X h0 eG el hX hp hA => ?_)
  have ht0 : (gO G).2.2 = (xG X).2.2 := by rw [eG]
  have L0 : gL (gO G) = [] := rfl
  refine p_aload (j := 0) hX dX2_init_0 rfl ?_
  refine p_obj hX dX2_init_1 oi_X2 (Nat.le_of_ble_eq_true rfl) ?_
  refine p_aload (j := 0) hX dX2_init_4 rfl ?_
  refine p_bipush hX dX2_init_5 bp_24 ?_
  refine p_arrI (j := 24) (N := 24) hX hp ht0 dX2_init_7 w_248 (by decide +kernel) (by decide +kernel) (Nat.le_of_ble_eq_true rfl) (nin L0 (by decide +kernel)) (by decide) (CL_of L0 (by decide +kernel) (no6 (by decide +kernel))) (DNI_of L0 (by decide +kernel)) (Nat.le_of_ble_eq_true rfl) (Nat.le_of_ble_eq_true rfl) (fun G1 ht1 l1 a1 => ?_)
  have L1 : gL G1 = [24] := by rw [l1, L0]; rfl
  rw [mjz]
  refine p_putR (f := 1) (off := 1) (j := 24) (C := RX2) (T := TX2) (N := 5) (ty := tyX2) hX hp dX2_init_9 rfl (Nat.le_of_ble_eq_true rfl) rfl rfl w_260 inws_2 tyX2_ok nmX2 rfl (fun a => ⟨rfl, rfl⟩) rfl rfl ?_
  refine p_aload (j := 0) hX dX2_init_12 rfl ?_
  refine p_bipush hX dX2_init_13 bp_24 ?_
  refine p_arrI (j := 25) (N := 24) hX hp ht1 dX2_init_15 w_248 (by decide +kernel) (by decide +kernel) (Nat.le_of_ble_eq_true rfl) (nin L1 (by decide +kernel)) (by decide) (CL_of L1 (by decide +kernel) (no6 (by decide +kernel))) (DNI_of L1 (by decide +kernel)) (Nat.le_of_ble_eq_true rfl) (Nat.le_of_ble_eq_true rfl) (fun G2 ht2 l2 a2 => ?_)
  have L2 : gL G2 = [24, 25] := by rw [l2, L1]; rfl
  rw [mjz]
  refine p_putR (f := 2) (off := 2) (j := 25) (C := RX2) (T := TX2) (N := 5) (ty := tyX2) hX hp dX2_init_17 rfl (Nat.le_of_ble_eq_true rfl) rfl rfl w_263 inws_2 tyX2_ok nmX2 rfl (fun a => ⟨rfl, rfl⟩) rfl rfl ?_
  refine p_aload (j := 0) hX dX2_init_20 rfl ?_
  refine p_bipush hX dX2_init_21 bp_24 ?_
  refine p_arrI (j := 26) (N := 24) hX hp ht2 dX2_init_23 w_248 (by decide +kernel) (by decide +kernel) (Nat.le_of_ble_eq_true rfl) (nin L2 (by decide +kernel)) (by decide) (CL_of L2 (by decide +kernel) (no6 (by decide +kernel))) (DNI_of L2 (by decide +kernel)) (Nat.le_of_ble_eq_true rfl) (Nat.le_of_ble_eq_true rfl) (fun G3 ht3 l3 a3 => ?_)
  have L3 : gL G3 = [24, 25, 26] := by rw [l3, L2]; rfl
  rw [mjz]
  refine p_putR (f := 3) (off := 3) (j := 26) (C := RX2) (T := TX2) (N := 5) (ty := tyX2) hX hp dX2_init_25 rfl (Nat.le_of_ble_eq_true rfl) rfl rfl w_265 inws_2 tyX2_ok nmX2 rfl (fun a => ⟨rfl, rfl⟩) rfl rfl ?_
  refine p_aload (j := 0) hX dX2_init_28 rfl ?_
  refine p_bipush hX dX2_init_29 bp_24 ?_
  refine p_arrI (j := 27) (N := 24) hX hp ht3 dX2_init_31 w_248 (by decide +kernel) (by decide +kernel) (Nat.le_of_ble_eq_true rfl) (nin L3 (by decide +kernel)) (by decide) (CL_of L3 (by decide +kernel) (no6 (by decide +kernel))) (DNI_of L3 (by decide +kernel)) (Nat.le_of_ble_eq_true rfl) (Nat.le_of_ble_eq_true rfl) (fun G4 ht4 l4 a4 => ?_)
  have L4 : gL G4 = [24, 25, 26, 27] := by rw [l4, L3]; rfl
  rw [mjz]
  refine p_putR (f := 4) (off := 4) (j := 27) (C := RX2) (T := TX2) (N := 5) (ty := tyX2) hX hp dX2_init_33 rfl (Nat.le_of_ble_eq_true rfl) rfl rfl w_267 inws_2 tyX2_ok nmX2 rfl (fun a => ⟨rfl, rfl⟩) rfl rfl ?_
  refine p_abs hX ht4 (all_of (by decide +kernel)) (by decide +kernel) (nin L4 (by decide +kernel)) (DNI_of L4 (by decide +kernel)) (CL_of L4 (by decide +kernel) (no6 (by decide +kernel))) (by rw [L4]; decide +kernel) (fun G5 ht5 l5 gi a5 hY => ?_)
  have L5 : gL G5 = [24, 25, 26, 27, 23] := by rw [l5, L4]; rfl
  exact x_cret (X := (xA X, G5, X.2.2)) hY (ht5.trans (by rw [eG]; rfl)) gi hA L5 dX2_init_36 (Nat.le_of_ble_eq_true rfl) (Nat.le_of_ble_eq_true rfl) rfl
set_option maxRecDepth 100000 in
set_option maxHeartbeats 4000000 in
theorem ci_X5_28 {l : Launch} {G : Gx} (hl : l.stackTraces = false) : Ci l G mX5_init 1 6 336 28 5 [29, 30, 31, 32, 33, 34, 28] (fun _ _ => 0) := by
  refine Ci_of (own := RX5) (cc := cX5_init) (nL := 1) hl kX5_init rfl rfl rfl rfl (Nat.le_of_ble_eq_true rfl) rfl rfl (fun X h0 eG el hX hp hA => ?_)
  have ht0 : (gO G).2.2 = (xG X).2.2 := by rw [eG]
  have L0 : gL (gO G) = [] := rfl
  refine p_aload (j := 0) hX dX5_init_0 rfl ?_
  refine p_obj hX dX5_init_1 oi_X5 (Nat.le_of_ble_eq_true rfl) ?_
  refine p_aload (j := 0) hX dX5_init_4 rfl ?_
  refine p_bipush hX dX5_init_5 bp_16 ?_
  refine p_arrI (j := 29) (N := 16) hX hp ht0 dX5_init_7 w_248 (by decide +kernel) (by decide +kernel) (Nat.le_of_ble_eq_true rfl) (nin L0 (by decide +kernel)) (by decide) (CL_of L0 (by decide +kernel) (no6 (by decide +kernel))) (DNI_of L0 (by decide +kernel)) (Nat.le_of_ble_eq_true rfl) (Nat.le_of_ble_eq_true rfl) (fun G1 ht1 l1 a1 => ?_)
  have L1 : gL G1 = [29] := by rw [l1, L0]; rfl
  rw [mjz]
  refine p_putR (f := 2) (off := 1) (j := 29) (C := RX5) (T := TX5) (N := 8) (ty := tyX5) hX hp dX5_init_9 rfl (Nat.le_of_ble_eq_true rfl) rfl rfl w_295 inws_5 tyX5_ok nmX5 rfl (fun a => ⟨rfl, rfl⟩) rfl rfl ?_
  refine p_aload (j := 0) hX dX5_init_12 rfl ?_
  refine p_bipush hX dX5_init_13 bp_16 ?_
  refine p_arrI (j := 30) (N := 16) hX hp ht1 dX5_init_15 w_248 (by decide +kernel) (by decide +kernel) (Nat.le_of_ble_eq_true rfl) (nin L1 (by decide +kernel)) (by decide) (CL_of L1 (by decide +kernel) (no6 (by decide +kernel))) (DNI_of L1 (by decide +kernel)) (Nat.le_of_ble_eq_true rfl) (Nat.le_of_ble_eq_true rfl) (fun G2 ht2 l2 a2 => ?_)
  have L2 : gL G2 = [29, 30] := by rw [l2, L1]; rfl
  rw [mjz]
  refine p_putR (f := 3) (off := 2) (j := 30) (C := RX5) (T := TX5) (N := 8) (ty := tyX5) hX hp dX5_init_17 rfl (Nat.le_of_ble_eq_true rfl) rfl rfl w_299 inws_5 tyX5_ok nmX5 rfl (fun a => ⟨rfl, rfl⟩) rfl rfl ?_
  refine p_aload (j := 0) hX dX5_init_20 rfl ?_
  refine p_bipush hX dX5_init_21 bp_16 ?_
  refine p_arrI (j := 31) (N := 16) hX hp ht2 dX5_init_23 w_248 (by decide +kernel) (by decide +kernel) (Nat.le_of_ble_eq_true rfl) (nin L2 (by decide +kernel)) (by decide) (CL_of L2 (by decide +kernel) (no6 (by decide +kernel))) (DNI_of L2 (by decide +kernel)) (Nat.le_of_ble_eq_true rfl) (Nat.le_of_ble_eq_true rfl) (fun G3 ht3 l3 a3 => ?_)
  have L3 : gL G3 = [29, 30, 31] := by rw [l3, L2]; rfl
  rw [mjz]
  refine p_putR (f := 4) (off := 3) (j := 31) (C := RX5) (T := TX5) (N := 8) (ty := tyX5) hX hp dX5_init_25 rfl (Nat.le_of_ble_eq_true rfl) rfl rfl w_302 inws_5 tyX5_ok nmX5 rfl (fun a => ⟨rfl, rfl⟩) rfl rfl ?_
  refine p_aload (j := 0) hX dX5_init_28 rfl ?_
  refine p_bipush hX dX5_init_29 bp_96 ?_
  refine p_arrI (j := 32) (N := 96) hX hp ht3 dX5_init_31 w_248 (by decide +kernel) (by decide +kernel) (Nat.le_of_ble_eq_true rfl) (nin L3 (by decide +kernel)) (by decide) (CL_of L3 (by decide +kernel) (no6 (by decide +kernel))) (DNI_of L3 (by decide +kernel)) (Nat.le_of_ble_eq_true rfl) (Nat.le_of_ble_eq_true rfl) (fun G4 ht4 l4 a4 => ?_)
  have L4 : gL G4 = [29, 30, 31, 32] := by rw [l4, L3]; rfl
  rw [mjz]
  refine p_putR (f := 5) (off := 4) (j := 32) (C := RX5) (T := TX5) (N := 8) (ty := tyX5) hX hp dX5_init_33 rfl (Nat.le_of_ble_eq_true rfl) rfl rfl w_305 inws_5 tyX5_ok nmX5 rfl (fun a => ⟨rfl, rfl⟩) rfl rfl ?_
  refine p_aload (j := 0) hX dX5_init_36 rfl ?_
  refine p_bipush hX dX5_init_37 bp_96 ?_
  refine p_arrI (j := 33) (N := 96) hX hp ht4 dX5_init_39 w_248 (by decide +kernel) (by decide +kernel) (Nat.le_of_ble_eq_true rfl) (nin L4 (by decide +kernel)) (by decide) (CL_of L4 (by decide +kernel) (no6 (by decide +kernel))) (DNI_of L4 (by decide +kernel)) (Nat.le_of_ble_eq_true rfl) (Nat.le_of_ble_eq_true rfl) (fun G5 ht5 l5 a5 => ?_)
  have L5 : gL G5 = [29, 30, 31, 32, 33] := by rw [l5, L4]; rfl
  rw [mjz]
  refine p_putR (f := 6) (off := 5) (j := 33) (C := RX5) (T := TX5) (N := 8) (ty := tyX5) hX hp dX5_init_41 rfl (Nat.le_of_ble_eq_true rfl) rfl rfl w_307 inws_5 tyX5_ok nmX5 rfl (fun a => ⟨rfl, rfl⟩) rfl rfl ?_
  refine p_aload (j := 0) hX dX5_init_44 rfl ?_
  refine p_bipush hX dX5_init_45 bp_96 ?_
  refine p_arrI (j := 34) (N := 96) hX hp ht5 dX5_init_47 w_248 (by decide +kernel) (by decide +kernel) (Nat.le_of_ble_eq_true rfl) (nin L5 (by decide +kernel)) (by decide) (CL_of L5 (by decide +kernel) (no6 (by decide +kernel))) (DNI_of L5 (by decide +kernel)) (Nat.le_of_ble_eq_true rfl) (Nat.le_of_ble_eq_true rfl) (fun G6 ht6 l6 a6 => ?_)
  have L6 : gL G6 = [29, 30, 31, 32, 33, 34] := by rw [l6, L5]; rfl
  rw [mjz]
  refine p_putR (f := 7) (off := 6) (j := 34) (C := RX5) (T := TX5) (N := 8) (ty := tyX5) hX hp dX5_init_49 rfl (Nat.le_of_ble_eq_true rfl) rfl rfl w_309 inws_5 tyX5_ok nmX5 rfl (fun a => ⟨rfl, rfl⟩) rfl rfl ?_
  refine p_abs hX ht6 (all_of (by decide +kernel)) (by decide +kernel) (nin L6 (by decide +kernel)) (DNI_of L6 (by decide +kernel)) (CL_of L6 (by decide +kernel) (no6 (by decide +kernel))) (by rw [L6]; decide +kernel) (fun G7 ht7 l7 gi a7 hY => ?_)
  have L7 : gL G7 = [29, 30, 31, 32, 33, 34, 28] := by rw [l7, L6]; rfl
  exact x_cret (X := (xA X, G7, X.2.2)) hY (ht7.trans (by rw [eG]; rfl)) gi hA L7 dX5_init_52 (Nat.le_of_ble_eq_true rfl) (Nat.le_of_ble_eq_true rfl) rfl
set_option maxRecDepth 100000 in
set_option maxHeartbeats 4000000 in
theorem ci_X0_35 {l : Launch} {G : Gx} (hl : l.stackTraces = false) : Ci l G mX0_init 1 1 8 35 0 [36, 35] (fun _ _ => 0) := by
  refine Ci_of (own := RX0) (cc := cX0_init) (nL := 1) hl kX0_init rfl rfl rfl rfl (Nat.le_of_ble_eq_true rfl) rfl rfl (fun X h0 eG el hX hp hA => ?_)
  have ht0 : (gO G).2.2 = (xG X).2.2 := by rw [eG]
  have L0 : gL (gO G) = [] := rfl
  refine p_aload (j := 0) hX dX0_init_0 rfl ?_
  refine p_obj hX dX0_init_1 oi_X0 (Nat.le_of_ble_eq_true rfl) ?_
  refine p_aload (j := 0) hX dX0_init_4 rfl ?_
  refine p_bipush hX dX0_init_5 bp_8 ?_
  refine p_arrI (j := 36) (N := 8) hX hp ht0 dX0_init_7 w_248 (by decide +kernel) (by decide +kernel) (Nat.le_of_ble_eq_true rfl) (nin L0 (by decide +kernel)) (by decide) (CL_of L0 (by decide +kernel) (no6 (by decide +kernel))) (DNI_of L0 (by decide +kernel)) (Nat.le_of_ble_eq_true rfl) (Nat.le_of_ble_eq_true rfl) (fun G1 ht1 l1 a1 => ?_)
  have L1 : gL G1 = [36] := by rw [l1, L0]; rfl
  rw [mjz]
  refine p_putR (f := 1) (off := 1) (j := 36) (C := RX0) (T := TX0) (N := 2) (ty := tyX0) hX hp dX0_init_9 rfl (Nat.le_of_ble_eq_true rfl) rfl rfl w_341 inws_0 tyX0_ok nmX0 rfl (fun a => ⟨rfl, rfl⟩) rfl rfl ?_
  refine p_abs hX ht1 (all_of (by decide +kernel)) (by decide +kernel) (nin L1 (by decide +kernel)) (DNI_of L1 (by decide +kernel)) (CL_of L1 (by decide +kernel) (no6 (by decide +kernel))) (by rw [L1]; decide +kernel) (fun G2 ht2 l2 gi a2 hY => ?_)
  have L2 : gL G2 = [36, 35] := by rw [l2, L1]; rfl
  exact x_cret (X := (xA X, G2, X.2.2)) hY (ht2.trans (by rw [eG]; rfl)) gi hA L2 dX0_init_12 (Nat.le_of_ble_eq_true rfl) (Nat.le_of_ble_eq_true rfl) rfl
set_option maxRecDepth 100000 in
set_option maxHeartbeats 4000000 in
theorem ci_X1_19 {l : Launch} {G : Gx} (hl : l.stackTraces = false) {Mr19 : Mem} (er19 : f_X3_reset 20 (fun _ _ => 0) = some Mr19) : Ci l G mX1_init 4 17 469 19 1 [21, 22, 20, 24, 25, 26, 27, 23, 29, 30, 31, 32, 33, 34, 28, 36, 35, 19] Mr19 := by
  refine Ci_of (own := RX1) (cc := cX1_init) (nL := 1) hl kX1_init rfl rfl rfl rfl (Nat.le_of_ble_eq_true rfl) rfl rfl (fun X h0 eG el hX hp hA => ?_)
  have ht0 : (gO G).2.2 = (xG X).2.2 := by rw [eG]
  have L0 : gL (gO G) = [] := rfl
  refine p_aload (j := 0) hX dX1_init_0 rfl ?_
  refine p_obj hX dX1_init_1 oi_X1 (Nat.le_of_ble_eq_true rfl) ?_
  refine p_aload (j := 0) hX dX1_init_4 rfl ?_
  refine p_new (Ls := [21, 22, 20]) (Ms := (fun _ _ => 0)) hX hp ht0 dX1_init_5 dX1_init_8 dX1_init_9 nw_X1_11 (ci_X3_20 (gl hX)) rfl (Nat.le_of_ble_eq_true rfl) (Nat.le_of_ble_eq_true rfl) (Nat.le_of_ble_eq_true rfl) (dis_of L0 (by decide +kernel)) (by decide) (by decide) (CL_of L0 (by decide +kernel) (no6 (by decide +kernel))) (fun Gs e => CL_of e (by decide +kernel) (no6 (by decide +kernel))) (DNI_of L0 (by decide +kernel)) (fun G1 ht1 l1 a1 => ?_)
  have L1 : gL G1 = [21, 22, 20] := by rw [l1, L0]; rfl
  rw [mjz]
  refine p_putR (f := 0) (off := 1) (j := 20) (C := RX1) (T := TX1) (N := 4) (ty := tyX1) hX hp dX1_init_12 rfl (Nat.le_of_ble_eq_true rfl) rfl rfl w_364 inws_1 tyX1_ok nmX1 rfl (fun a => ⟨rfl, rfl⟩) rfl rfl ?_
  refine p_aload (j := 0) hX dX1_init_15 rfl ?_
  refine p_new (Ls := [24, 25, 26, 27, 23]) (Ms := (fun _ _ => 0)) hX hp ht1 dX1_init_16 dX1_init_19 dX1_init_20 nw_X1_20 (ci_X2_23 (gl hX)) rfl (Nat.le_of_ble_eq_true rfl) (Nat.le_of_ble_eq_true rfl) (Nat.le_of_ble_eq_true rfl) (dis_of L1 (by decide +kernel)) (by decide) (by decide) (CL_of L1 (by decide +kernel) (no6 (by decide +kernel))) (fun Gs e => CL_of e (by decide +kernel) (no6 (by decide +kernel))) (DNI_of L1 (by decide +kernel)) (fun G2 ht2 l2 a2 => ?_)
  have L2 : gL G2 = [21, 22, 20, 24, 25, 26, 27, 23] := by rw [l2, L1]; rfl
  rw [mjz]
  refine p_putR (f := 1) (off := 4) (j := 23) (C := RX1) (T := TX1) (N := 4) (ty := tyX1) hX hp dX1_init_23 rfl (Nat.le_of_ble_eq_true rfl) rfl rfl w_371 inws_1 tyX1_ok nmX1 rfl (fun a => ⟨rfl, rfl⟩) rfl rfl ?_
  refine p_aload (j := 0) hX dX1_init_26 rfl ?_
  refine p_new (Ls := [29, 30, 31, 32, 33, 34, 28]) (Ms := (fun _ _ => 0)) hX hp ht2 dX1_init_27 dX1_init_30 dX1_init_31 nw_X1_27 (ci_X5_28 (gl hX)) rfl (Nat.le_of_ble_eq_true rfl) (Nat.le_of_ble_eq_true rfl) (Nat.le_of_ble_eq_true rfl) (dis_of L2 (by decide +kernel)) (by decide) (by decide) (CL_of L2 (by decide +kernel) (no6 (by decide +kernel))) (fun Gs e => CL_of e (by decide +kernel) (no6 (by decide +kernel))) (DNI_of L2 (by decide +kernel)) (fun G3 ht3 l3 a3 => ?_)
  have L3 : gL G3 = [21, 22, 20, 24, 25, 26, 27, 23, 29, 30, 31, 32, 33, 34, 28] := by rw [l3, L2]; rfl
  rw [mjz]
  refine p_putR (f := 2) (off := 9) (j := 28) (C := RX1) (T := TX1) (N := 4) (ty := tyX1) hX hp dX1_init_34 rfl (Nat.le_of_ble_eq_true rfl) rfl rfl w_375 inws_1 tyX1_ok nmX1 rfl (fun a => ⟨rfl, rfl⟩) rfl rfl ?_
  refine p_aload (j := 0) hX dX1_init_37 rfl ?_
  refine p_new (Ls := [36, 35]) (Ms := (fun _ _ => 0)) hX hp ht3 dX1_init_38 dX1_init_41 dX1_init_42 nw_X1_34 (ci_X0_35 (gl hX)) rfl (Nat.le_of_ble_eq_true rfl) (Nat.le_of_ble_eq_true rfl) (Nat.le_of_ble_eq_true rfl) (dis_of L3 (by decide +kernel)) (by decide) (by decide) (CL_of L3 (by decide +kernel) (no6 (by decide +kernel))) (fun Gs e => CL_of e (by decide +kernel) (no6 (by decide +kernel))) (DNI_of L3 (by decide +kernel)) (fun G4 ht4 l4 a4 => ?_)
  have L4 : gL G4 = [21, 22, 20, 24, 25, 26, 27, 23, 29, 30, 31, 32, 33, 34, 28, 36, 35] := by rw [l4, L3]; rfl
  rw [mjz]
  refine p_putR (f := 3) (off := 16) (j := 35) (C := RX1) (T := TX1) (N := 4) (ty := tyX1) hX hp dX1_init_45 rfl (Nat.le_of_ble_eq_true rfl) rfl rfl w_380 inws_1 tyX1_ok nmX1 rfl (fun a => ⟨rfl, rfl⟩) rfl rfl ?_
  refine p_abs hX ht4 (all_of (by decide +kernel)) (by decide +kernel) (nin L4 (by decide +kernel)) (DNI_of L4 (by decide +kernel)) (CL_of L4 (by decide +kernel) (no6 (by decide +kernel))) (by rw [L4]; decide +kernel) (fun G5 ht5 l5 gi a5 hY => ?_)
  have L5 : gL G5 = [21, 22, 20, 24, 25, 26, 27, 23, 29, 30, 31, 32, 33, 34, 28, 36, 35, 19] := by rw [l5, L4]; rfl
  have e0 : (Value.ref h0) = vr (xG (xA X, G5, X.2.2)) 19 := by show _ = Value.ref (gad G5 19); rw [gi]
  rw [e0]
  refine x_aloadn hY dX1_init_48 rfl ?_
  have hi : at_ (xG (xA X, G5, X.2.2)) 19 11 0 := ⟨by show _ ∈ gL G5; rw [L5]; decide +kernel, by decide +kernel⟩
  refine x_getRj (j := 20) hY dX1_init_49 fl_X1_12 rfl hi rfl ?_
  refine x_callVv (t := 3) (As := []) (rest := []) hY dX1_init_52 (c_X3_reset (gk hY) (gl hY) (fo_1_0 (gk hY) hi) _ _ er19) kX3_reset vX3_reset w_352 (fo_1_0 (gk hY) hi) rfl rfl rfl rfl (Nat.le_of_ble_eq_true rfl) ⟨Nat.le_trans (Nat.le_of_ble_eq_true rfl) (Nat.le_of_eq hp.2.2.1.symm), Nat.le_trans (Nat.le_of_ble_eq_true rfl) (Nat.le_of_eq hp.2.2.2.symm)⟩ ?_
  exact x_cret (X := (xA X, G5, X.2.2)) hY (ht5.trans (by rw [eG]; rfl)) gi hA L5 dX1_init_55 (Nat.le_of_ble_eq_true rfl) (Nat.le_of_ble_eq_true rfl) rfl
set_option maxRecDepth 100000 in
set_option maxHeartbeats 4000000 in
theorem ci_X10_38 {l : Launch} {G : Gx} (hl : l.stackTraces = false) : Ci l G mX10_init 1 1 600 38 9 [39, 38] (upd2 (fun _ _ => 0) 38 3 (-1)) := by
  refine Ci_of (own := RX10) (cc := cX10_init) (nL := 1) hl kX10_init rfl rfl rfl rfl (Nat.le_of_ble_eq_true rfl) rfl rfl (fun X h0 eG el hX hp hA => ?_)
  have ht0 : (gO G).2.2 = (xG X).2.2 := by rw [eG]
  have L0 : gL (gO G) = [] := rfl
  refine p_aload (j := 0) hX dX10_init_0 rfl ?_
  refine p_obj hX dX10_init_1 oi_X10 (Nat.le_of_ble_eq_true rfl) ?_
  refine p_aload (j := 0) hX dX10_init_4 rfl ?_
  refine p_sipush hX dX10_init_5 sp_600 ?_
  refine p_arrB (j := 39) (N := 600) hX hp ht0 dX10_init_8 w_430 (by decide +kernel) (by decide +kernel) (Nat.le_of_ble_eq_true rfl) (nin L0 (by decide +kernel)) (by decide) (CL_of L0 (by decide +kernel) (no6 (by decide +kernel))) (DNI_of L0 (by decide +kernel)) (Nat.le_of_ble_eq_true rfl) (Nat.le_of_ble_eq_true rfl) (fun G1 ht1 l1 a1 => ?_)
  have L1 : gL G1 = [39] := by rw [l1, L0]; rfl
  rw [mjz]
  refine p_putR (f := 0) (off := 1) (j := 39) (C := RX10) (T := TX10) (N := 8) (ty := tyX10) hX hp dX10_init_10 rfl (Nat.le_of_ble_eq_true rfl) rfl rfl w_402 inws_9 tyX10_ok nmX10 rfl (fun a => ⟨rfl, rfl⟩) rfl rfl ?_
  refine p_aload (j := 0) hX dX10_init_13 rfl ?_
  refine p_iconst hX dX10_init_14 ?_
  refine p_putI (f := 3) (C := RX10) (T := TX10) (N := 8) (ty := tyX10) hX dX10_init_15 rfl (Nat.le_of_ble_eq_true rfl) rfl w_407 inws_9 tyX10_ok nmX10 rfl rfl rfl (nin L1 (by decide +kernel)) ?_
  refine p_abs hX ht1 (all_of (by decide +kernel)) (by decide +kernel) (nin L1 (by decide +kernel)) (DNI_of L1 (by decide +kernel)) (CL_of L1 (by decide +kernel) (no6 (by decide +kernel))) (by rw [L1]; decide +kernel) (fun G2 ht2 l2 gi a2 hY => ?_)
  have L2 : gL G2 = [39, 38] := by rw [l2, L1]; rfl
  exact x_cret (X := (xA X, G2, X.2.2)) hY (ht2.trans (by rw [eG]; rfl)) gi hA L2 dX10_init_18 (Nat.le_of_ble_eq_true rfl) (Nat.le_of_ble_eq_true rfl) rfl
set_option maxRecDepth 100000 in
set_option maxHeartbeats 4000000 in
theorem ci_X6_40 {l : Launch} {G : Gx} (hl : l.stackTraces = false) : Ci l G mX6_init 1 8 68 40 6 [41, 42, 43, 44, 45, 46, 47, 48, 40] (fun _ _ => 0) := by
  refine Ci_of (own := RX6) (cc := cX6_init) (nL := 1) hl kX6_init rfl rfl rfl rfl (Nat.le_of_ble_eq_true rfl) rfl rfl (fun X h0 eG el hX hp hA => ?_)
  have ht0 : (gO G).2.2 = (xG X).2.2 := by rw [eG]
  have L0 : gL (gO G) = [] := rfl
  refine p_aload (j := 0) hX dX6_init_0 rfl ?_
  refine p_obj hX dX6_init_1 oi_X6 (Nat.le_of_ble_eq_true rfl) ?_
  refine p_aload (j := 0) hX dX6_init_4 rfl ?_
  refine p_bipush hX dX6_init_5 bp_6 ?_
  refine p_arrI (j := 41) (N := 6) hX hp ht0 dX6_init_7 w_248 (by decide +kernel) (by decide +kernel) (Nat.le_of_ble_eq_true rfl) (nin L0 (by decide +kernel)) (by decide) (CL_of L0 (by decide +kernel) (no6 (by decide +kernel))) (DNI_of L0 (by decide +kernel)) (Nat.le_of_ble_eq_true rfl) (Nat.le_of_ble_eq_true rfl) (fun G1 ht1 l1 a1 => ?_)
  have L1 : gL G1 = [41] := by rw [l1, L0]; rfl
  rw [mjz]
  refine p_putR (f := 2) (off := 1) (j := 41) (C := RX6) (T := TX6) (N := 14) (ty := tyX6) hX hp dX6_init_9 rfl (Nat.le_of_ble_eq_true rfl) rfl rfl w_439 inws_6 tyX6_ok nmX6 rfl (fun a => ⟨rfl, rfl⟩) rfl rfl ?_
  refine p_aload (j := 0) hX dX6_init_12 rfl ?_
  refine p_bipush hX dX6_init_13 bp_6 ?_
  refine p_arrI (j := 42) (N := 6) hX hp ht1 dX6_init_15 w_248 (by decide +kernel) (by decide +kernel) (Nat.le_of_ble_eq_true rfl) (nin L1 (by decide +kernel)) (by decide) (CL_of L1 (by decide +kernel) (no6 (by decide +kernel))) (DNI_of L1 (by decide +kernel)) (Nat.le_of_ble_eq_true rfl) (Nat.le_of_ble_eq_true rfl) (fun G2 ht2 l2 a2 => ?_)
  have L2 : gL G2 = [41, 42] := by rw [l2, L1]; rfl
  rw [mjz]
  refine p_putR (f := 3) (off := 2) (j := 42) (C := RX6) (T := TX6) (N := 14) (ty := tyX6) hX hp dX6_init_17 rfl (Nat.le_of_ble_eq_true rfl) rfl rfl w_440 inws_6 tyX6_ok nmX6 rfl (fun a => ⟨rfl, rfl⟩) rfl rfl ?_
  refine p_aload (j := 0) hX dX6_init_20 rfl ?_
  refine p_bipush hX dX6_init_21 bp_6 ?_
  refine p_arrI (j := 43) (N := 6) hX hp ht2 dX6_init_23 w_248 (by decide +kernel) (by decide +kernel) (Nat.le_of_ble_eq_true rfl) (nin L2 (by decide +kernel)) (by decide) (CL_of L2 (by decide +kernel) (no6 (by decide +kernel))) (DNI_of L2 (by decide +kernel)) (Nat.le_of_ble_eq_true rfl) (Nat.le_of_ble_eq_true rfl) (fun G3 ht3 l3 a3 => ?_)
  have L3 : gL G3 = [41, 42, 43] := by rw [l3, L2]; rfl
  rw [mjz]
  refine p_putR (f := 4) (off := 3) (j := 43) (C := RX6) (T := TX6) (N := 14) (ty := tyX6) hX hp dX6_init_25 rfl (Nat.le_of_ble_eq_true rfl) rfl rfl w_441 inws_6 tyX6_ok nmX6 rfl (fun a => ⟨rfl, rfl⟩) rfl rfl ?_
  refine p_aload (j := 0) hX dX6_init_28 rfl ?_
  refine p_bipush hX dX6_init_29 bp_6 ?_
  refine p_arrI (j := 44) (N := 6) hX hp ht3 dX6_init_31 w_248 (by decide +kernel) (by decide +kernel) (Nat.le_of_ble_eq_true rfl) (nin L3 (by decide +kernel)) (by decide) (CL_of L3 (by decide +kernel) (no6 (by decide +kernel))) (DNI_of L3 (by decide +kernel)) (Nat.le_of_ble_eq_true rfl) (Nat.le_of_ble_eq_true rfl) (fun G4 ht4 l4 a4 => ?_)
  have L4 : gL G4 = [41, 42, 43, 44] := by rw [l4, L3]; rfl
  rw [mjz]
  refine p_putR (f := 5) (off := 4) (j := 44) (C := RX6) (T := TX6) (N := 14) (ty := tyX6) hX hp dX6_init_33 rfl (Nat.le_of_ble_eq_true rfl) rfl rfl w_442 inws_6 tyX6_ok nmX6 rfl (fun a => ⟨rfl, rfl⟩) rfl rfl ?_
  refine p_aload (j := 0) hX dX6_init_36 rfl ?_
  refine p_bipush hX dX6_init_37 bp_6 ?_
  refine p_arrI (j := 45) (N := 6) hX hp ht4 dX6_init_39 w_248 (by decide +kernel) (by decide +kernel) (Nat.le_of_ble_eq_true rfl) (nin L4 (by decide +kernel)) (by decide) (CL_of L4 (by decide +kernel) (no6 (by decide +kernel))) (DNI_of L4 (by decide +kernel)) (Nat.le_of_ble_eq_true rfl) (Nat.le_of_ble_eq_true rfl) (fun G5 ht5 l5 a5 => ?_)
  have L5 : gL G5 = [41, 42, 43, 44, 45] := by rw [l5, L4]; rfl
  rw [mjz]
  refine p_putR (f := 7) (off := 5) (j := 45) (C := RX6) (T := TX6) (N := 14) (ty := tyX6) hX hp dX6_init_41 rfl (Nat.le_of_ble_eq_true rfl) rfl rfl w_444 inws_6 tyX6_ok nmX6 rfl (fun a => ⟨rfl, rfl⟩) rfl rfl ?_
  refine p_aload (j := 0) hX dX6_init_44 rfl ?_
  refine p_bipush hX dX6_init_45 bp_7 ?_
  refine p_arrI (j := 46) (N := 7) hX hp ht5 dX6_init_47 w_248 (by decide +kernel) (by decide +kernel) (Nat.le_of_ble_eq_true rfl) (nin L5 (by decide +kernel)) (by decide) (CL_of L5 (by decide +kernel) (no6 (by decide +kernel))) (DNI_of L5 (by decide +kernel)) (Nat.le_of_ble_eq_true rfl) (Nat.le_of_ble_eq_true rfl) (fun G6 ht6 l6 a6 => ?_)
  have L6 : gL G6 = [41, 42, 43, 44, 45, 46] := by rw [l6, L5]; rfl
  rw [mjz]
  refine p_putR (f := 10) (off := 6) (j := 46) (C := RX6) (T := TX6) (N := 14) (ty := tyX6) hX hp dX6_init_49 rfl (Nat.le_of_ble_eq_true rfl) rfl rfl w_447 inws_6 tyX6_ok nmX6 rfl (fun a => ⟨rfl, rfl⟩) rfl rfl ?_
  refine p_aload (j := 0) hX dX6_init_52 rfl ?_
  refine p_bipush hX dX6_init_53 bp_7 ?_
  refine p_arrI (j := 47) (N := 7) hX hp ht6 dX6_init_55 w_248 (by decide +kernel) (by decide +kernel) (Nat.le_of_ble_eq_true rfl) (nin L6 (by decide +kernel)) (by decide) (CL_of L6 (by decide +kernel) (no6 (by decide +kernel))) (DNI_of L6 (by decide +kernel)) (Nat.le_of_ble_eq_true rfl) (Nat.le_of_ble_eq_true rfl) (fun G7 ht7 l7 a7 => ?_)
  have L7 : gL G7 = [41, 42, 43, 44, 45, 46, 47] := by rw [l7, L6]; rfl
  rw [mjz]
  refine p_putR (f := 11) (off := 7) (j := 47) (C := RX6) (T := TX6) (N := 14) (ty := tyX6) hX hp dX6_init_57 rfl (Nat.le_of_ble_eq_true rfl) rfl rfl w_448 inws_6 tyX6_ok nmX6 rfl (fun a => ⟨rfl, rfl⟩) rfl rfl ?_
  refine p_aload (j := 0) hX dX6_init_60 rfl ?_
  refine p_bipush hX dX6_init_61 bp_24 ?_
  refine p_arrI (j := 48) (N := 24) hX hp ht7 dX6_init_63 w_248 (by decide +kernel) (by decide +kernel) (Nat.le_of_ble_eq_true rfl) (nin L7 (by decide +kernel)) (by decide) (CL_of L7 (by decide +kernel) (no6 (by decide +kernel))) (DNI_of L7 (by decide +kernel)) (Nat.le_of_ble_eq_true rfl) (Nat.le_of_ble_eq_true rfl) (fun G8 ht8 l8 a8 => ?_)
  have L8 : gL G8 = [41, 42, 43, 44, 45, 46, 47, 48] := by rw [l8, L7]; rfl
  rw [mjz]
  refine p_putR (f := 13) (off := 8) (j := 48) (C := RX6) (T := TX6) (N := 14) (ty := tyX6) hX hp dX6_init_65 rfl (Nat.le_of_ble_eq_true rfl) rfl rfl w_451 inws_6 tyX6_ok nmX6 rfl (fun a => ⟨rfl, rfl⟩) rfl rfl ?_
  refine p_abs hX ht8 (all_of (by decide +kernel)) (by decide +kernel) (nin L8 (by decide +kernel)) (DNI_of L8 (by decide +kernel)) (CL_of L8 (by decide +kernel) (no6 (by decide +kernel))) (by rw [L8]; decide +kernel) (fun G9 ht9 l9 gi a9 hY => ?_)
  have L9 : gL G9 = [41, 42, 43, 44, 45, 46, 47, 48, 40] := by rw [l9, L8]; rfl
  exact x_cret (X := (xA X, G9, X.2.2)) hY (ht9.trans (by rw [eG]; rfl)) gi hA L9 dX6_init_68 (Nat.le_of_ble_eq_true rfl) (Nat.le_of_ble_eq_true rfl) rfl
set_option maxRecDepth 100000 in
set_option maxHeartbeats 4000000 in
theorem ci_X6_77 {l : Launch} {G : Gx} (hl : l.stackTraces = false) : Ci l G mX6_init 1 8 68 77 6 [78, 79, 80, 81, 82, 83, 84, 85, 77] (fun _ _ => 0) := by
  refine Ci_of (own := RX6) (cc := cX6_init) (nL := 1) hl kX6_init rfl rfl rfl rfl (Nat.le_of_ble_eq_true rfl) rfl rfl (fun X h0 eG el hX hp hA => ?_)
  have ht0 : (gO G).2.2 = (xG X).2.2 := by rw [eG]
  have L0 : gL (gO G) = [] := rfl
  refine p_aload (j := 0) hX dX6_init_0 rfl ?_
  refine p_obj hX dX6_init_1 oi_X6 (Nat.le_of_ble_eq_true rfl) ?_
  refine p_aload (j := 0) hX dX6_init_4 rfl ?_
  refine p_bipush hX dX6_init_5 bp_6 ?_
  refine p_arrI (j := 78) (N := 6) hX hp ht0 dX6_init_7 w_248 (by decide +kernel) (by decide +kernel) (Nat.le_of_ble_eq_true rfl) (nin L0 (by decide +kernel)) (by decide) (CL_of L0 (by decide +kernel) (no6 (by decide +kernel))) (DNI_of L0 (by decide +kernel)) (Nat.le_of_ble_eq_true rfl) (Nat.le_of_ble_eq_true rfl) (fun G1 ht1 l1 a1 => ?_)
  have L1 : gL G1 = [78] := by rw [l1, L0]; rfl
  rw [mjz]
  refine p_putR (f := 2) (off := 1) (j := 78) (C := RX6) (T := TX6) (N := 14) (ty := tyX6) hX hp dX6_init_9 rfl (Nat.le_of_ble_eq_true rfl) rfl rfl w_439 inws_6 tyX6_ok nmX6 rfl (fun a => ⟨rfl, rfl⟩) rfl rfl ?_
  refine p_aload (j := 0) hX dX6_init_12 rfl ?_
  refine p_bipush hX dX6_init_13 bp_6 ?_
  refine p_arrI (j := 79) (N := 6) hX hp ht1 dX6_init_15 w_248 (by decide +kernel) (by decide +kernel) (Nat.le_of_ble_eq_true rfl) (nin L1 (by decide +kernel)) (by decide) (CL_of L1 (by decide +kernel) (no6 (by decide +kernel))) (DNI_of L1 (by decide +kernel)) (Nat.le_of_ble_eq_true rfl) (Nat.le_of_ble_eq_true rfl) (fun G2 ht2 l2 a2 => ?_)
  have L2 : gL G2 = [78, 79] := by rw [l2, L1]; rfl
  rw [mjz]
  refine p_putR (f := 3) (off := 2) (j := 79) (C := RX6) (T := TX6) (N := 14) (ty := tyX6) hX hp dX6_init_17 rfl (Nat.le_of_ble_eq_true rfl) rfl rfl w_440 inws_6 tyX6_ok nmX6 rfl (fun a => ⟨rfl, rfl⟩) rfl rfl ?_
  refine p_aload (j := 0) hX dX6_init_20 rfl ?_
  refine p_bipush hX dX6_init_21 bp_6 ?_
  refine p_arrI (j := 80) (N := 6) hX hp ht2 dX6_init_23 w_248 (by decide +kernel) (by decide +kernel) (Nat.le_of_ble_eq_true rfl) (nin L2 (by decide +kernel)) (by decide) (CL_of L2 (by decide +kernel) (no6 (by decide +kernel))) (DNI_of L2 (by decide +kernel)) (Nat.le_of_ble_eq_true rfl) (Nat.le_of_ble_eq_true rfl) (fun G3 ht3 l3 a3 => ?_)
  have L3 : gL G3 = [78, 79, 80] := by rw [l3, L2]; rfl
  rw [mjz]
  refine p_putR (f := 4) (off := 3) (j := 80) (C := RX6) (T := TX6) (N := 14) (ty := tyX6) hX hp dX6_init_25 rfl (Nat.le_of_ble_eq_true rfl) rfl rfl w_441 inws_6 tyX6_ok nmX6 rfl (fun a => ⟨rfl, rfl⟩) rfl rfl ?_
  refine p_aload (j := 0) hX dX6_init_28 rfl ?_
  refine p_bipush hX dX6_init_29 bp_6 ?_
  refine p_arrI (j := 81) (N := 6) hX hp ht3 dX6_init_31 w_248 (by decide +kernel) (by decide +kernel) (Nat.le_of_ble_eq_true rfl) (nin L3 (by decide +kernel)) (by decide) (CL_of L3 (by decide +kernel) (no6 (by decide +kernel))) (DNI_of L3 (by decide +kernel)) (Nat.le_of_ble_eq_true rfl) (Nat.le_of_ble_eq_true rfl) (fun G4 ht4 l4 a4 => ?_)
  have L4 : gL G4 = [78, 79, 80, 81] := by rw [l4, L3]; rfl
  rw [mjz]
  refine p_putR (f := 5) (off := 4) (j := 81) (C := RX6) (T := TX6) (N := 14) (ty := tyX6) hX hp dX6_init_33 rfl (Nat.le_of_ble_eq_true rfl) rfl rfl w_442 inws_6 tyX6_ok nmX6 rfl (fun a => ⟨rfl, rfl⟩) rfl rfl ?_
  refine p_aload (j := 0) hX dX6_init_36 rfl ?_
  refine p_bipush hX dX6_init_37 bp_6 ?_
  refine p_arrI (j := 82) (N := 6) hX hp ht4 dX6_init_39 w_248 (by decide +kernel) (by decide +kernel) (Nat.le_of_ble_eq_true rfl) (nin L4 (by decide +kernel)) (by decide) (CL_of L4 (by decide +kernel) (no6 (by decide +kernel))) (DNI_of L4 (by decide +kernel)) (Nat.le_of_ble_eq_true rfl) (Nat.le_of_ble_eq_true rfl) (fun G5 ht5 l5 a5 => ?_)
  have L5 : gL G5 = [78, 79, 80, 81, 82] := by rw [l5, L4]; rfl
  rw [mjz]
  refine p_putR (f := 7) (off := 5) (j := 82) (C := RX6) (T := TX6) (N := 14) (ty := tyX6) hX hp dX6_init_41 rfl (Nat.le_of_ble_eq_true rfl) rfl rfl w_444 inws_6 tyX6_ok nmX6 rfl (fun a => ⟨rfl, rfl⟩) rfl rfl ?_
  refine p_aload (j := 0) hX dX6_init_44 rfl ?_
  refine p_bipush hX dX6_init_45 bp_7 ?_
  refine p_arrI (j := 83) (N := 7) hX hp ht5 dX6_init_47 w_248 (by decide +kernel) (by decide +kernel) (Nat.le_of_ble_eq_true rfl) (nin L5 (by decide +kernel)) (by decide) (CL_of L5 (by decide +kernel) (no6 (by decide +kernel))) (DNI_of L5 (by decide +kernel)) (Nat.le_of_ble_eq_true rfl) (Nat.le_of_ble_eq_true rfl) (fun G6 ht6 l6 a6 => ?_)
  have L6 : gL G6 = [78, 79, 80, 81, 82, 83] := by rw [l6, L5]; rfl
  rw [mjz]
  refine p_putR (f := 10) (off := 6) (j := 83) (C := RX6) (T := TX6) (N := 14) (ty := tyX6) hX hp dX6_init_49 rfl (Nat.le_of_ble_eq_true rfl) rfl rfl w_447 inws_6 tyX6_ok nmX6 rfl (fun a => ⟨rfl, rfl⟩) rfl rfl ?_
  refine p_aload (j := 0) hX dX6_init_52 rfl ?_
  refine p_bipush hX dX6_init_53 bp_7 ?_
  refine p_arrI (j := 84) (N := 7) hX hp ht6 dX6_init_55 w_248 (by decide +kernel) (by decide +kernel) (Nat.le_of_ble_eq_true rfl) (nin L6 (by decide +kernel)) (by decide) (CL_of L6 (by decide +kernel) (no6 (by decide +kernel))) (DNI_of L6 (by decide +kernel)) (Nat.le_of_ble_eq_true rfl) (Nat.le_of_ble_eq_true rfl) (fun G7 ht7 l7 a7 => ?_)
  have L7 : gL G7 = [78, 79, 80, 81, 82, 83, 84] := by rw [l7, L6]; rfl
  rw [mjz]
  refine p_putR (f := 11) (off := 7) (j := 84) (C := RX6) (T := TX6) (N := 14) (ty := tyX6) hX hp dX6_init_57 rfl (Nat.le_of_ble_eq_true rfl) rfl rfl w_448 inws_6 tyX6_ok nmX6 rfl (fun a => ⟨rfl, rfl⟩) rfl rfl ?_
  refine p_aload (j := 0) hX dX6_init_60 rfl ?_
  refine p_bipush hX dX6_init_61 bp_24 ?_
  refine p_arrI (j := 85) (N := 24) hX hp ht7 dX6_init_63 w_248 (by decide +kernel) (by decide +kernel) (Nat.le_of_ble_eq_true rfl) (nin L7 (by decide +kernel)) (by decide) (CL_of L7 (by decide +kernel) (no6 (by decide +kernel))) (DNI_of L7 (by decide +kernel)) (Nat.le_of_ble_eq_true rfl) (Nat.le_of_ble_eq_true rfl) (fun G8 ht8 l8 a8 => ?_)
  have L8 : gL G8 = [78, 79, 80, 81, 82, 83, 84, 85] := by rw [l8, L7]; rfl
  rw [mjz]
  refine p_putR (f := 13) (off := 8) (j := 85) (C := RX6) (T := TX6) (N := 14) (ty := tyX6) hX hp dX6_init_65 rfl (Nat.le_of_ble_eq_true rfl) rfl rfl w_451 inws_6 tyX6_ok nmX6 rfl (fun a => ⟨rfl, rfl⟩) rfl rfl ?_
  refine p_abs hX ht8 (all_of (by decide +kernel)) (by decide +kernel) (nin L8 (by decide +kernel)) (DNI_of L8 (by decide +kernel)) (CL_of L8 (by decide +kernel) (no6 (by decide +kernel))) (by rw [L8]; decide +kernel) (fun G9 ht9 l9 gi a9 hY => ?_)
  have L9 : gL G9 = [78, 79, 80, 81, 82, 83, 84, 85, 77] := by rw [l9, L8]; rfl
  exact x_cret (X := (xA X, G9, X.2.2)) hY (ht9.trans (by rw [eG]; rfl)) gi hA L9 dX6_init_68 (Nat.le_of_ble_eq_true rfl) (Nat.le_of_ble_eq_true rfl) rfl
set_option maxRecDepth 100000 in
set_option maxHeartbeats 4000000 in
theorem ci_X7_49 {l : Launch} {G : Gx} (hl : l.stackTraces = false) : Ci l G mX7_init 2 36 178 49 7 [50, 51, 52, 53, 54, 55, 56, 57, 58, 59, 60, 61, 62, 63, 64, 65, 66, 67, 68, 69, 70, 71, 72, 73, 74, 75, 76, 78, 79, 80, 81, 82, 83, 84, 85, 77, 49] (fun _ _ => 0) := by
  refine Ci_of (own := RX7) (cc := cX7_init) (nL := 1) hl kX7_init rfl rfl rfl rfl (Nat.le_of_ble_eq_true rfl) rfl rfl (fun X h0 eG el hX hp hA => ?_)
  have ht0 : (gO G).2.2 = (xG X).2.2 := by rw [eG]
  have L0 : gL (gO G) = [] := rfl
  refine p_aload (j := 0) hX dX7_init_0 rfl ?_
  refine p_obj hX dX7_init_1 oi_X7 (Nat.le_of_ble_eq_true rfl) ?_
  refine p_aload (j := 0) hX dX7_init_4 rfl ?_
  refine p_bipush hX dX7_init_5 bp_8 ?_
  refine p_iconst hX dX7_init_7 ?_
  refine p_mna (j := 50) (Ls := [50, 51, 52, 53, 54, 55, 56, 57, 58]) hX hp ht0 dX7_init_8 w_488 w_248 rfl (by decide +kernel) (by decide +kernel) (dis_of L0 (by decide +kernel)) (by decide) (CL_of L0 (by decide +kernel) (no6 (by decide +kernel))) (fun Gs e => CL_of e (by decide +kernel) (no6 (by decide +kernel))) (DNI_of L0 (by decide +kernel)) (Nat.le_of_ble_eq_true rfl) (Nat.le_of_ble_eq_true rfl) (fun G1 ht1 l1 a1 => ?_)
  have L1 : gL G1 = [50, 51, 52, 53, 54, 55, 56, 57, 58] := by rw [l1, L0]; rfl
  rw [mjz]
  refine p_putR (f := 0) (off := 1) (j := 50) (C := RX7) (T := TX7) (N := 4) (ty := tyX7) hX hp dX7_init_12 rfl (Nat.le_of_ble_eq_true rfl) rfl rfl w_492 inws_7 tyX7_ok nmX7 rfl (fun a => ⟨rfl, rfl⟩) rfl rfl ?_
  refine p_aload (j := 0) hX dX7_init_15 rfl ?_
  refine p_bipush hX dX7_init_16 bp_8 ?_
  refine p_iconst hX dX7_init_18 ?_
  refine p_mna (j := 59) (Ls := [59, 60, 61, 62, 63, 64, 65, 66, 67]) hX hp ht1 dX7_init_19 w_488 w_248 rfl (by decide +kernel) (by decide +kernel) (dis_of L1 (by decide +kernel)) (by decide) (CL_of L1 (by decide +kernel) (no6 (by decide +kernel))) (fun Gs e => CL_of e (by decide +kernel) (no6 (by decide +kernel))) (DNI_of L1 (by decide +kernel)) (Nat.le_of_ble_eq_true rfl) (Nat.le_of_ble_eq_true rfl) (fun G2 ht2 l2 a2 => ?_)
  have L2 : gL G2 = [50, 51, 52, 53, 54, 55, 56, 57, 58, 59, 60, 61, 62, 63, 64, 65, 66, 67] := by rw [l2, L1]; rfl
  rw [mjz]
  refine p_putR (f := 1) (off := 10) (j := 59) (C := RX7) (T := TX7) (N := 4) (ty := tyX7) hX hp dX7_init_23 rfl (Nat.le_of_ble_eq_true rfl) rfl rfl w_494 inws_7 tyX7_ok nmX7 rfl (fun a => ⟨rfl, rfl⟩) rfl rfl ?_
  refine p_aload (j := 0) hX dX7_init_26 rfl ?_
  refine p_bipush hX dX7_init_27 bp_8 ?_
  refine p_iconst hX dX7_init_29 ?_
  refine p_mna (j := 68) (Ls := [68, 69, 70, 71, 72, 73, 74, 75, 76]) hX hp ht2 dX7_init_30 w_488 w_248 rfl (by decide +kernel) (by decide +kernel) (dis_of L2 (by decide +kernel)) (by decide) (CL_of L2 (by decide +kernel) (no6 (by decide +kernel))) (fun Gs e => CL_of e (by decide +kernel) (no6 (by decide +kernel))) (DNI_of L2 (by decide +kernel)) (Nat.le_of_ble_eq_true rfl) (Nat.le_of_ble_eq_true rfl) (fun G3 ht3 l3 a3 => ?_)
  have L3 : gL G3 = [50, 51, 52, 53, 54, 55, 56, 57, 58, 59, 60, 61, 62, 63, 64, 65, 66, 67, 68, 69, 70, 71, 72, 73, 74, 75, 76] := by rw [l3, L2]; rfl
  rw [mjz]
  refine p_putR (f := 2) (off := 19) (j := 68) (C := RX7) (T := TX7) (N := 4) (ty := tyX7) hX hp dX7_init_34 rfl (Nat.le_of_ble_eq_true rfl) rfl rfl w_496 inws_7 tyX7_ok nmX7 rfl (fun a => ⟨rfl, rfl⟩) rfl rfl ?_
  refine p_aload (j := 0) hX dX7_init_37 rfl ?_
  refine p_new (Ls := [78, 79, 80, 81, 82, 83, 84, 85, 77]) (Ms := (fun _ _ => 0)) hX hp ht3 dX7_init_38 dX7_init_41 dX7_init_42 nw_X7_24 (ci_X6_77 (gl hX)) rfl (Nat.le_of_ble_eq_true rfl) (Nat.le_of_ble_eq_true rfl) (Nat.le_of_ble_eq_true rfl) (dis_of L3 (by decide +kernel)) (by decide) (by decide) (CL_of L3 (by decide +kernel) (no6 (by decide +kernel))) (fun Gs e => CL_of e (by decide +kernel) (no6 (by decide +kernel))) (DNI_of L3 (by decide +kernel)) (fun G4 ht4 l4 a4 => ?_)
  have L4 : gL G4 = [50, 51, 52, 53, 54, 55, 56, 57, 58, 59, 60, 61, 62, 63, 64, 65, 66, 67, 68, 69, 70, 71, 72, 73, 74, 75, 76, 78, 79, 80, 81, 82, 83, 84, 85, 77] := by rw [l4, L3]; rfl
  rw [mjz]
  refine p_putR (f := 3) (off := 28) (j := 77) (C := RX7) (T := TX7) (N := 4) (ty := tyX7) hX hp dX7_init_45 rfl (Nat.le_of_ble_eq_true rfl) rfl rfl w_498 inws_7 tyX7_ok nmX7 rfl (fun a => ⟨rfl, rfl⟩) rfl rfl ?_
  refine p_abs hX ht4 (all_of (by decide +kernel)) (by decide +kernel) (nin L4 (by decide +kernel)) (DNI_of L4 (by decide +kernel)) (CL_of L4 (by decide +kernel) (no6 (by decide +kernel))) (by rw [L4]; decide +kernel) (fun G5 ht5 l5 gi a5 hY => ?_)
  have L5 : gL G5 = [50, 51, 52, 53, 54, 55, 56, 57, 58, 59, 60, 61, 62, 63, 64, 65, 66, 67, 68, 69, 70, 71, 72, 73, 74, 75, 76, 78, 79, 80, 81, 82, 83, 84, 85, 77, 49] := by rw [l5, L4]; rfl
  exact x_cret (X := (xA X, G5, X.2.2)) hY (ht5.trans (by rw [eG]; rfl)) gi hA L5 dX7_init_48 (Nat.le_of_ble_eq_true rfl) (Nat.le_of_ble_eq_true rfl) rfl
set_option maxRecDepth 100000 in
set_option maxHeartbeats 4000000 in
theorem ci_X6_87 {l : Launch} {G : Gx} (hl : l.stackTraces = false) : Ci l G mX6_init 1 8 68 87 6 [88, 89, 90, 91, 92, 93, 94, 95, 87] (fun _ _ => 0) := by
  refine Ci_of (own := RX6) (cc := cX6_init) (nL := 1) hl kX6_init rfl rfl rfl rfl (Nat.le_of_ble_eq_true rfl) rfl rfl (fun X h0 eG el hX hp hA => ?_)
  have ht0 : (gO G).2.2 = (xG X).2.2 := by rw [eG]
  have L0 : gL (gO G) = [] := rfl
  refine p_aload (j := 0) hX dX6_init_0 rfl ?_
  refine p_obj hX dX6_init_1 oi_X6 (Nat.le_of_ble_eq_true rfl) ?_
  refine p_aload (j := 0) hX dX6_init_4 rfl ?_
  refine p_bipush hX dX6_init_5 bp_6 ?_
  refine p_arrI (j := 88) (N := 6) hX hp ht0 dX6_init_7 w_248 (by decide +kernel) (by decide +kernel) (Nat.le_of_ble_eq_true rfl) (nin L0 (by decide +kernel)) (by decide) (CL_of L0 (by decide +kernel) (no6 (by decide +kernel))) (DNI_of L0 (by decide +kernel)) (Nat.le_of_ble_eq_true rfl) (Nat.le_of_ble_eq_true rfl) (fun G1 ht1 l1 a1 => ?_)
  have L1 : gL G1 = [88] := by rw [l1, L0]; rfl
  rw [mjz]
  refine p_putR (f := 2) (off := 1) (j := 88) (C := RX6) (T := TX6) (N := 14) (ty := tyX6) hX hp dX6_init_9 rfl (Nat.le_of_ble_eq_true rfl) rfl rfl w_439 inws_6 tyX6_ok nmX6 rfl (fun a => ⟨rfl, rfl⟩) rfl rfl ?_
  refine p_aload (j := 0) hX dX6_init_12 rfl ?_
  refine p_bipush hX dX6_init_13 bp_6 ?_
  refine p_arrI (j := 89) (N := 6) hX hp ht1 dX6_init_15 w_248 (by decide +kernel) (by decide +kernel) (Nat.le_of_ble_eq_true rfl) (nin L1 (by decide +kernel)) (by decide) (CL_of L1 (by decide +kernel) (no6 (by decide +kernel))) (DNI_of L1 (by decide +kernel)) (Nat.le_of_ble_eq_true rfl) (Nat.le_of_ble_eq_true rfl) (fun G2 ht2 l2 a2 => ?_)
  have L2 : gL G2 = [88, 89] := by rw [l2, L1]; rfl
  rw [mjz]
  refine p_putR (f := 3) (off := 2) (j := 89) (C := RX6) (T := TX6) (N := 14) (ty := tyX6) hX hp dX6_init_17 rfl (Nat.le_of_ble_eq_true rfl) rfl rfl w_440 inws_6 tyX6_ok nmX6 rfl (fun a => ⟨rfl, rfl⟩) rfl rfl ?_
  refine p_aload (j := 0) hX dX6_init_20 rfl ?_
  refine p_bipush hX dX6_init_21 bp_6 ?_
  refine p_arrI (j := 90) (N := 6) hX hp ht2 dX6_init_23 w_248 (by decide +kernel) (by decide +kernel) (Nat.le_of_ble_eq_true rfl) (nin L2 (by decide +kernel)) (by decide) (CL_of L2 (by decide +kernel) (no6 (by decide +kernel))) (DNI_of L2 (by decide +kernel)) (Nat.le_of_ble_eq_true rfl) (Nat.le_of_ble_eq_true rfl) (fun G3 ht3 l3 a3 => ?_)
  have L3 : gL G3 = [88, 89, 90] := by rw [l3, L2]; rfl
  rw [mjz]
  refine p_putR (f := 4) (off := 3) (j := 90) (C := RX6) (T := TX6) (N := 14) (ty := tyX6) hX hp dX6_init_25 rfl (Nat.le_of_ble_eq_true rfl) rfl rfl w_441 inws_6 tyX6_ok nmX6 rfl (fun a => ⟨rfl, rfl⟩) rfl rfl ?_
  refine p_aload (j := 0) hX dX6_init_28 rfl ?_
  refine p_bipush hX dX6_init_29 bp_6 ?_
  refine p_arrI (j := 91) (N := 6) hX hp ht3 dX6_init_31 w_248 (by decide +kernel) (by decide +kernel) (Nat.le_of_ble_eq_true rfl) (nin L3 (by decide +kernel)) (by decide) (CL_of L3 (by decide +kernel) (no6 (by decide +kernel))) (DNI_of L3 (by decide +kernel)) (Nat.le_of_ble_eq_true rfl) (Nat.le_of_ble_eq_true rfl) (fun G4 ht4 l4 a4 => ?_)
  have L4 : gL G4 = [88, 89, 90, 91] := by rw [l4, L3]; rfl
  rw [mjz]
  refine p_putR (f := 5) (off := 4) (j := 91) (C := RX6) (T := TX6) (N := 14) (ty := tyX6) hX hp dX6_init_33 rfl (Nat.le_of_ble_eq_true rfl) rfl rfl w_442 inws_6 tyX6_ok nmX6 rfl (fun a => ⟨rfl, rfl⟩) rfl rfl ?_
  refine p_aload (j := 0) hX dX6_init_36 rfl ?_
  refine p_bipush hX dX6_init_37 bp_6 ?_
  refine p_arrI (j := 92) (N := 6) hX hp ht4 dX6_init_39 w_248 (by decide +kernel) (by decide +kernel) (Nat.le_of_ble_eq_true rfl) (nin L4 (by decide +kernel)) (by decide) (CL_of L4 (by decide +kernel) (no6 (by decide +kernel))) (DNI_of L4 (by decide +kernel)) (Nat.le_of_ble_eq_true rfl) (Nat.le_of_ble_eq_true rfl) (fun G5 ht5 l5 a5 => ?_)
  have L5 : gL G5 = [88, 89, 90, 91, 92] := by rw [l5, L4]; rfl
  rw [mjz]
  refine p_putR (f := 7) (off := 5) (j := 92) (C := RX6) (T := TX6) (N := 14) (ty := tyX6) hX hp dX6_init_41 rfl (Nat.le_of_ble_eq_true rfl) rfl rfl w_444 inws_6 tyX6_ok nmX6 rfl (fun a => ⟨rfl, rfl⟩) rfl rfl ?_
  refine p_aload (j := 0) hX dX6_init_44 rfl ?_
  refine p_bipush hX dX6_init_45 bp_7 ?_
  refine p_arrI (j := 93) (N := 7) hX hp ht5 dX6_init_47 w_248 (by decide +kernel) (by decide +kernel) (Nat.le_of_ble_eq_true rfl) (nin L5 (by decide +kernel)) (by decide) (CL_of L5 (by decide +kernel) (no6 (by decide +kernel))) (DNI_of L5 (by decide +kernel)) (Nat.le_of_ble_eq_true rfl) (Nat.le_of_ble_eq_true rfl) (fun G6 ht6 l6 a6 => ?_)
  have L6 : gL G6 = [88, 89, 90, 91, 92, 93] := by rw [l6, L5]; rfl
  rw [mjz]
  refine p_putR (f := 10) (off := 6) (j := 93) (C := RX6) (T := TX6) (N := 14) (ty := tyX6) hX hp dX6_init_49 rfl (Nat.le_of_ble_eq_true rfl) rfl rfl w_447 inws_6 tyX6_ok nmX6 rfl (fun a => ⟨rfl, rfl⟩) rfl rfl ?_
  refine p_aload (j := 0) hX dX6_init_52 rfl ?_
  refine p_bipush hX dX6_init_53 bp_7 ?_
  refine p_arrI (j := 94) (N := 7) hX hp ht6 dX6_init_55 w_248 (by decide +kernel) (by decide +kernel) (Nat.le_of_ble_eq_true rfl) (nin L6 (by decide +kernel)) (by decide) (CL_of L6 (by decide +kernel) (no6 (by decide +kernel))) (DNI_of L6 (by decide +kernel)) (Nat.le_of_ble_eq_true rfl) (Nat.le_of_ble_eq_true rfl) (fun G7 ht7 l7 a7 => ?_)
  have L7 : gL G7 = [88, 89, 90, 91, 92, 93, 94] := by rw [l7, L6]; rfl
  rw [mjz]
  refine p_putR (f := 11) (off := 7) (j := 94) (C := RX6) (T := TX6) (N := 14) (ty := tyX6) hX hp dX6_init_57 rfl (Nat.le_of_ble_eq_true rfl) rfl rfl w_448 inws_6 tyX6_ok nmX6 rfl (fun a => ⟨rfl, rfl⟩) rfl rfl ?_
  refine p_aload (j := 0) hX dX6_init_60 rfl ?_
  refine p_bipush hX dX6_init_61 bp_24 ?_
  refine p_arrI (j := 95) (N := 24) hX hp ht7 dX6_init_63 w_248 (by decide +kernel) (by decide +kernel) (Nat.le_of_ble_eq_true rfl) (nin L7 (by decide +kernel)) (by decide) (CL_of L7 (by decide +kernel) (no6 (by decide +kernel))) (DNI_of L7 (by decide +kernel)) (Nat.le_of_ble_eq_true rfl) (Nat.le_of_ble_eq_true rfl) (fun G8 ht8 l8 a8 => ?_)
  have L8 : gL G8 = [88, 89, 90, 91, 92, 93, 94, 95] := by rw [l8, L7]; rfl
  rw [mjz]
  refine p_putR (f := 13) (off := 8) (j := 95) (C := RX6) (T := TX6) (N := 14) (ty := tyX6) hX hp dX6_init_65 rfl (Nat.le_of_ble_eq_true rfl) rfl rfl w_451 inws_6 tyX6_ok nmX6 rfl (fun a => ⟨rfl, rfl⟩) rfl rfl ?_
  refine p_abs hX ht8 (all_of (by decide +kernel)) (by decide +kernel) (nin L8 (by decide +kernel)) (DNI_of L8 (by decide +kernel)) (CL_of L8 (by decide +kernel) (no6 (by decide +kernel))) (by rw [L8]; decide +kernel) (fun G9 ht9 l9 gi a9 hY => ?_)
  have L9 : gL G9 = [88, 89, 90, 91, 92, 93, 94, 95, 87] := by rw [l9, L8]; rfl
  exact x_cret (X := (xA X, G9, X.2.2)) hY (ht9.trans (by rw [eG]; rfl)) gi hA L9 dX6_init_68 (Nat.le_of_ble_eq_true rfl) (Nat.le_of_ble_eq_true rfl) rfl
set_option maxRecDepth 100000 in
set_option maxHeartbeats 4000000 in
theorem ci_X4_86 {l : Launch} {G : Gx} (hl : l.stackTraces = false) : Ci l G mX4_init 2 10 90 86 4 [88, 89, 90, 91, 92, 93, 94, 95, 87, 96, 86] (fun _ _ => 0) := by
  refine Ci_of (own := RX4) (cc := cX4_init) (nL := 1) hl kX4_init rfl rfl rfl rfl (Nat.le_of_ble_eq_true rfl) rfl rfl (fun X h0 eG el hX hp hA => ?_)
  have ht0 : (gO G).2.2 = (xG X).2.2 := by rw [eG]
  have L0 : gL (gO G) = [] := rfl
  refine p_aload (j := 0) hX dX4_init_0 rfl ?_
  refine p_obj hX dX4_init_1 oi_X4 (Nat.le_of_ble_eq_true rfl) ?_
  refine p_aload (j := 0) hX dX4_init_4 rfl ?_
  refine p_new (Ls := [88, 89, 90, 91, 92, 93, 94, 95, 87]) (Ms := (fun _ _ => 0)) hX hp ht0 dX4_init_5 dX4_init_8 dX4_init_9 nw_X4_11 (ci_X6_87 (gl hX)) rfl (Nat.le_of_ble_eq_true rfl) (Nat.le_of_ble_eq_true rfl) (Nat.le_of_ble_eq_true rfl) (dis_of L0 (by decide +kernel)) (by decide) (by decide) (CL_of L0 (by decide +kernel) (no6 (by decide +kernel))) (fun Gs e => CL_of e (by decide +kernel) (no6 (by decide +kernel))) (DNI_of L0 (by decide +kernel)) (fun G1 ht1 l1 a1 => ?_)
  have L1 : gL G1 = [88, 89, 90, 91, 92, 93, 94, 95, 87] := by rw [l1, L0]; rfl
  rw [mjz]
  refine p_putR (f := 0) (off := 1) (j := 87) (C := RX4) (T := TX4) (N := 5) (ty := tyX4) hX hp dX4_init_12 rfl (Nat.le_of_ble_eq_true rfl) rfl rfl w_516 inws_4 tyX4_ok nmX4 rfl (fun a => ⟨rfl, rfl⟩) rfl rfl ?_
  refine p_aload (j := 0) hX dX4_init_15 rfl ?_
  refine p_bipush hX dX4_init_16 bp_8 ?_
  refine p_arrI (j := 96) (N := 8) hX hp ht1 dX4_init_18 w_248 (by decide +kernel) (by decide +kernel) (Nat.le_of_ble_eq_true rfl) (nin L1 (by decide +kernel)) (by decide) (CL_of L1 (by decide +kernel) (no6 (by decide +kernel))) (DNI_of L1 (by decide +kernel)) (Nat.le_of_ble_eq_true rfl) (Nat.le_of_ble_eq_true rfl) (fun G2 ht2 l2 a2 => ?_)
  have L2 : gL G2 = [88, 89, 90, 91, 92, 93, 94, 95, 87, 96] := by rw [l2, L1]; rfl
  rw [mjz]
  refine p_putR (f := 1) (off := 10) (j := 96) (C := RX4) (T := TX4) (N := 5) (ty := tyX4) hX hp dX4_init_20 rfl (Nat.le_of_ble_eq_true rfl) rfl rfl w_517 inws_4 tyX4_ok nmX4 rfl (fun a => ⟨rfl, rfl⟩) rfl rfl ?_
  refine p_abs hX ht2 (all_of (by decide +kernel)) (by decide +kernel) (nin L2 (by decide +kernel)) (DNI_of L2 (by decide +kernel)) (CL_of L2 (by decide +kernel) (no6 (by decide +kernel))) (by rw [L2]; decide +kernel) (fun G3 ht3 l3 gi a3 hY => ?_)
  have L3 : gL G3 = [88, 89, 90, 91, 92, 93, 94, 95, 87, 96, 86] := by rw [l3, L2]; rfl
  exact x_cret (X := (xA X, G3, X.2.2)) hY (ht3.trans (by rw [eG]; rfl)) gi hA L3 dX4_init_23 (Nat.le_of_ble_eq_true rfl) (Nat.le_of_ble_eq_true rfl) rfl
set_option maxRecDepth 100000 in
set_option maxHeartbeats 4000000 in
theorem ci_X6_126 {l : Launch} {G : Gx} (hl : l.stackTraces = false) : Ci l G mX6_init 1 8 68 126 6 [127, 128, 129, 130, 131, 132, 133, 134, 126] (fun _ _ => 0) := by
  refine Ci_of (own := RX6) (cc := cX6_init) (nL := 1) hl kX6_init rfl rfl rfl rfl (Nat.le_of_ble_eq_true rfl) rfl rfl (fun X h0 eG el hX hp hA => ?_)
  have ht0 : (gO G).2.2 = (xG X).2.2 := by rw [eG]
  have L0 : gL (gO G) = [] := rfl
  refine p_aload (j := 0) hX dX6_init_0 rfl ?_
  refine p_obj hX dX6_init_1 oi_X6 (Nat.le_of_ble_eq_true rfl) ?_
  refine p_aload (j := 0) hX dX6_init_4 rfl ?_
  refine p_bipush hX dX6_init_5 bp_6 ?_
  refine p_arrI (j := 127) (N := 6) hX hp ht0 dX6_init_7 w_248 (by decide +kernel) (by decide +kernel) (Nat.le_of_ble_eq_true rfl) (nin L0 (by decide +kernel)) (by decide) (CL_of L0 (by decide +kernel) (no6 (by decide +kernel))) (DNI_of L0 (by decide +kernel)) (Nat.le_of_ble_eq_true rfl) (Nat.le_of_ble_eq_true rfl) (fun G1 ht1 l1 a1 => ?_)
  have L1 : gL G1 = [127] := by rw [l1, L0]; rfl
  rw [mjz]
  refine p_putR (f := 2) (off := 1) (j := 127) (C := RX6) (T := TX6) (N := 14) (ty := tyX6) hX hp dX6_init_9 rfl (Nat.le_of_ble_eq_true rfl) rfl rfl w_439 inws_6 tyX6_ok nmX6 rfl (fun a => ⟨rfl, rfl⟩) rfl rfl ?_
  refine p_aload (j := 0) hX dX6_init_12 rfl ?_
  refine p_bipush hX dX6_init_13 bp_6 ?_
  refine p_arrI (j := 128) (N := 6) hX hp ht1 dX6_init_15 w_248 (by decide +kernel) (by decide +kernel) (Nat.le_of_ble_eq_true rfl) (nin L1 (by decide +kernel)) (by decide) (CL_of L1 (by decide +kernel) (no6 (by decide +kernel))) (DNI_of L1 (by decide +kernel)) (Nat.le_of_ble_eq_true rfl) (Nat.le_of_ble_eq_true rfl) (fun G2 ht2 l2 a2 => ?_)
  have L2 : gL G2 = [127, 128] := by rw [l2, L1]; rfl
  rw [mjz]
  refine p_putR (f := 3) (off := 2) (j := 128) (C := RX6) (T := TX6) (N := 14) (ty := tyX6) hX hp dX6_init_17 rfl (Nat.le_of_ble_eq_true rfl) rfl rfl w_440 inws_6 tyX6_ok nmX6 rfl (fun a => ⟨rfl, rfl⟩) rfl rfl ?_
  refine p_aload (j := 0) hX dX6_init_20 rfl ?_
  refine p_bipush hX dX6_init_21 bp_6 ?_
  refine p_arrI (j := 129) (N := 6) hX hp ht2 dX6_init_23 w_248 (by decide +kernel) (by decide +kernel) (Nat.le_of_ble_eq_true rfl) (nin L2 (by decide +kernel)) (by decide) (CL_of L2 (by decide +kernel) (no6 (by decide +kernel))) (DNI_of L2 (by decide +kernel)) (Nat.le_of_ble_eq_true rfl) (Nat.le_of_ble_eq_true rfl) (fun G3 ht3 l3 a3 => ?_)
  have L3 : gL G3 = [127, 128, 129] := by rw [l3, L2]; rfl
  rw [mjz]
  refine p_putR (f := 4) (off := 3) (j := 129) (C := RX6) (T := TX6) (N := 14) (ty := tyX6) hX hp dX6_init_25 rfl (Nat.le_of_ble_eq_true rfl) rfl rfl w_441 inws_6 tyX6_ok nmX6 rfl (fun a => ⟨rfl, rfl⟩) rfl rfl ?_
  refine p_aload (j := 0) hX dX6_init_28 rfl ?_
  refine p_bipush hX dX6_init_29 bp_6 ?_
  refine p_arrI (j := 130) (N := 6) hX hp ht3 dX6_init_31 w_248 (by decide +kernel) (by decide +kernel) (Nat.le_of_ble_eq_true rfl) (nin L3 (by decide +kernel)) (by decide) (CL_of L3 (by decide +kernel) (no6 (by decide +kernel))) (DNI_of L3 (by decide +kernel)) (Nat.le_of_ble_eq_true rfl) (Nat.le_of_ble_eq_true rfl) (fun G4 ht4 l4 a4 => ?_)
  have L4 : gL G4 = [127, 128, 129, 130] := by rw [l4, L3]; rfl
  rw [mjz]
  refine p_putR (f := 5) (off := 4) (j := 130) (C := RX6) (T := TX6) (N := 14) (ty := tyX6) hX hp dX6_init_33 rfl (Nat.le_of_ble_eq_true rfl) rfl rfl w_442 inws_6 tyX6_ok nmX6 rfl (fun a => ⟨rfl, rfl⟩) rfl rfl ?_
  refine p_aload (j := 0) hX dX6_init_36 rfl ?_
  refine p_bipush hX dX6_init_37 bp_6 ?_
  refine p_arrI (j := 131) (N := 6) hX hp ht4 dX6_init_39 w_248 (by decide +kernel) (by decide +kernel) (Nat.le_of_ble_eq_true rfl) (nin L4 (by decide +kernel)) (by decide) (CL_of L4 (by decide +kernel) (no6 (by decide +kernel))) (DNI_of L4 (by decide +kernel)) (Nat.le_of_ble_eq_true rfl) (Nat.le_of_ble_eq_true rfl) (fun G5 ht5 l5 a5 => ?_)
  have L5 : gL G5 = [127, 128, 129, 130, 131] := by rw [l5, L4]; rfl
  rw [mjz]
  refine p_putR (f := 7) (off := 5) (j := 131) (C := RX6) (T := TX6) (N := 14) (ty := tyX6) hX hp dX6_init_41 rfl (Nat.le_of_ble_eq_true rfl) rfl rfl w_444 inws_6 tyX6_ok nmX6 rfl (fun a => ⟨rfl, rfl⟩) rfl rfl ?_
  refine p_aload (j := 0) hX dX6_init_44 rfl ?_
  refine p_bipush hX dX6_init_45 bp_7 ?_
  refine p_arrI (j := 132) (N := 7) hX hp ht5 dX6_init_47 w_248 (by decide +kernel) (by decide +kernel) (Nat.le_of_ble_eq_true rfl) (nin L5 (by decide +kernel)) (by decide) (CL_of L5 (by decide +kernel) (no6 (by decide +kernel))) (DNI_of L5 (by decide +kernel)) (Nat.le_of_ble_eq_true rfl) (Nat.le_of_ble_eq_true rfl) (fun G6 ht6 l6 a6 => ?_)
  have L6 : gL G6 = [127, 128, 129, 130, 131, 132] := by rw [l6, L5]; rfl
  rw [mjz]
  refine p_putR (f := 10) (off := 6) (j := 132) (C := RX6) (T := TX6) (N := 14) (ty := tyX6) hX hp dX6_init_49 rfl (Nat.le_of_ble_eq_true rfl) rfl rfl w_447 inws_6 tyX6_ok nmX6 rfl (fun a => ⟨rfl, rfl⟩) rfl rfl ?_
  refine p_aload (j := 0) hX dX6_init_52 rfl ?_
  refine p_bipush hX dX6_init_53 bp_7 ?_
  refine p_arrI (j := 133) (N := 7) hX hp ht6 dX6_init_55 w_248 (by decide +kernel) (by decide +kernel) (Nat.le_of_ble_eq_true rfl) (nin L6 (by decide +kernel)) (by decide) (CL_of L6 (by decide +kernel) (no6 (by decide +kernel))) (DNI_of L6 (by decide +kernel)) (Nat.le_of_ble_eq_true rfl) (Nat.le_of_ble_eq_true rfl) (fun G7 ht7 l7 a7 => ?_)
  have L7 : gL G7 = [127, 128, 129, 130, 131, 132, 133] := by rw [l7, L6]; rfl
  rw [mjz]
  refine p_putR (f := 11) (off := 7) (j := 133) (C := RX6) (T := TX6) (N := 14) (ty := tyX6) hX hp dX6_init_57 rfl (Nat.le_of_ble_eq_true rfl) rfl rfl w_448 inws_6 tyX6_ok nmX6 rfl (fun a => ⟨rfl, rfl⟩) rfl rfl ?_
  refine p_aload (j := 0) hX dX6_init_60 rfl ?_
  refine p_bipush hX dX6_init_61 bp_24 ?_
  refine p_arrI (j := 134) (N := 24) hX hp ht7 dX6_init_63 w_248 (by decide +kernel) (by decide +kernel) (Nat.le_of_ble_eq_true rfl) (nin L7 (by decide +kernel)) (by decide) (CL_of L7 (by decide +kernel) (no6 (by decide +kernel))) (DNI_of L7 (by decide +kernel)) (Nat.le_of_ble_eq_true rfl) (Nat.le_of_ble_eq_true rfl) (fun G8 ht8 l8 a8 => ?_)
  have L8 : gL G8 = [127, 128, 129, 130, 131, 132, 133, 134] := by rw [l8, L7]; rfl
  rw [mjz]
  refine p_putR (f := 13) (off := 8) (j := 134) (C := RX6) (T := TX6) (N := 14) (ty := tyX6) hX hp dX6_init_65 rfl (Nat.le_of_ble_eq_true rfl) rfl rfl w_451 inws_6 tyX6_ok nmX6 rfl (fun a => ⟨rfl, rfl⟩) rfl rfl ?_
  refine p_abs hX ht8 (all_of (by decide +kernel)) (by decide +kernel) (nin L8 (by decide +kernel)) (DNI_of L8 (by decide +kernel)) (CL_of L8 (by decide +kernel) (no6 (by decide +kernel))) (by rw [L8]; decide +kernel) (fun G9 ht9 l9 gi a9 hY => ?_)
  have L9 : gL G9 = [127, 128, 129, 130, 131, 132, 133, 134, 126] := by rw [l9, L8]; rfl
  exact x_cret (X := (xA X, G9, X.2.2)) hY (ht9.trans (by rw [eG]; rfl)) gi hA L9 dX6_init_68 (Nat.le_of_ble_eq_true rfl) (Nat.le_of_ble_eq_true rfl) rfl
set_option maxRecDepth 100000 in
set_option maxHeartbeats 4000000 in
theorem ci_X7_98 {l : Launch} {G : Gx} (hl : l.stackTraces = false) : Ci l G mX7_init 2 36 178 98 7 [99, 100, 101, 102, 103, 104, 105, 106, 107, 108, 109, 110, 111, 112, 113, 114, 115, 116, 117, 118, 119, 120, 121, 122, 123, 124, 125, 127, 128, 129, 130, 131, 132, 133, 134, 126, 98] (fun _ _ => 0) := by
  refine Ci_of (own := RX7) (cc := cX7_init) (nL := 1) hl kX7_init rfl rfl rfl rfl (Nat.le_of_ble_eq_true rfl) rfl rfl (fun X h0 eG el hX hp hA => ?_)
  have ht0 : (gO G).2.2 = (xG X).2.2 := by rw [eG]
  have L0 : gL (gO G) = [] := rfl
  refine p_aload (j := 0) hX dX7_init_0 rfl ?_
  refine p_obj hX dX7_init_1 oi_X7 (Nat.le_of_ble_eq_true rfl) ?_
  refine p_aload (j := 0) hX dX7_init_4 rfl ?_
  refine p_bipush hX dX7_init_5 bp_8 ?_
  refine p_iconst hX dX7_init_7 ?_
  refine p_mna (j := 99) (Ls := [99, 100, 101, 102, 103, 104, 105, 106, 107]) hX hp ht0 dX7_init_8 w_488 w_248 rfl (by decide +kernel) (by decide +kernel) (dis_of L0 (by decide +kernel)) (by decide) (CL_of L0 (by decide +kernel) (no6 (by decide +kernel))) (fun Gs e => CL_of e (by decide +kernel) (no6 (by decide +kernel))) (DNI_of L0 (by decide +kernel)) (Nat.le_of_ble_eq_true rfl) (Nat.le_of_ble_eq_true rfl) (fun G1 ht1 l1 a1 => ?_)
  have L1 : gL G1 = [99, 100, 101, 102, 103, 104, 105, 106, 107] := by rw [l1, L0]; rfl
  rw [mjz]
  refine p_putR (f := 0) (off := 1) (j := 99) (C := RX7) (T := TX7) (N := 4) (ty := tyX7) hX hp dX7_init_12 rfl (Nat.le_of_ble_eq_true rfl) rfl rfl w_492 inws_7 tyX7_ok nmX7 rfl (fun a => ⟨rfl, rfl⟩) rfl rfl ?_
  refine p_aload (j := 0) hX dX7_init_15 rfl ?_
  refine p_bipush hX dX7_init_16 bp_8 ?_
  refine p_iconst hX dX7_init_18 ?_
  refine p_mna (j := 108) (Ls := [108, 109, 110, 111, 112, 113, 114, 115, 116]) hX hp ht1 dX7_init_19 w_488 w_248 rfl (by decide +kernel) (by decide +kernel) (dis_of L1 (by decide +kernel)) (by decide) (CL_of L1 (by decide +kernel) (no6 (by decide +kernel))) (fun Gs e => CL_of e (by decide +kernel) (no6 (by decide +kernel))) (DNI_of L1 (by decide +kernel)) (Nat.le_of_ble_eq_true rfl) (Nat.le_of_ble_eq_true rfl) (fun G2 ht2 l2 a2 => ?_)
  have L2 : gL G2 = [99, 100, 101, 102, 103, 104, 105, 106, 107, 108, 109, 110, 111, 112, 113, 114, 115, 116] := by rw [l2, L1]; rfl
  rw [mjz]
  refine p_putR (f := 1) (off := 10) (j := 108) (C := RX7) (T := TX7) (N := 4) (ty := tyX7) hX hp dX7_init_23 rfl (Nat.le_of_ble_eq_true rfl) rfl rfl w_494 inws_7 tyX7_ok nmX7 rfl (fun a => ⟨rfl, rfl⟩) rfl rfl ?_
  refine p_aload (j := 0) hX dX7_init_26 rfl ?_
  refine p_bipush hX dX7_init_27 bp_8 ?_
  refine p_iconst hX dX7_init_29 ?_
  refine p_mna (j := 117) (Ls := [117, 118, 119, 120, 121, 122, 123, 124, 125]) hX hp ht2 dX7_init_30 w_488 w_248 rfl (by decide +kernel) (by decide +kernel) (dis_of L2 (by decide +kernel)) (by decide) (CL_of L2 (by decide +kernel) (no6 (by decide +kernel))) (fun Gs e => CL_of e (by decide +kernel) (no6 (by decide +kernel))) (DNI_of L2 (by decide +kernel)) (Nat.le_of_ble_eq_true rfl) (Nat.le_of_ble_eq_true rfl) (fun G3 ht3 l3 a3 => ?_)
  have L3 : gL G3 = [99, 100, 101, 102, 103, 104, 105, 106, 107, 108, 109, 110, 111, 112, 113, 114, 115, 116, 117, 118, 119, 120, 121, 122, 123, 124, 125] := by rw [l3, L2]; rfl
  rw [mjz]
  refine p_putR (f := 2) (off := 19) (j := 117) (C := RX7) (T := TX7) (N := 4) (ty := tyX7) hX hp dX7_init_34 rfl (Nat.le_of_ble_eq_true rfl) rfl rfl w_496 inws_7 tyX7_ok nmX7 rfl (fun a => ⟨rfl, rfl⟩) rfl rfl ?_
  refine p_aload (j := 0) hX dX7_init_37 rfl ?_
  refine p_new (Ls := [127, 128, 129, 130, 131, 132, 133, 134, 126]) (Ms := (fun _ _ => 0)) hX hp ht3 dX7_init_38 dX7_init_41 dX7_init_42 nw_X7_24 (ci_X6_126 (gl hX)) rfl (Nat.le_of_ble_eq_true rfl) (Nat.le_of_ble_eq_true rfl) (Nat.le_of_ble_eq_true rfl) (dis_of L3 (by decide +kernel)) (by decide) (by decide) (CL_of L3 (by decide +kernel) (no6 (by decide +kernel))) (fun Gs e => CL_of e (by decide +kernel) (no6 (by decide +kernel))) (DNI_of L3 (by decide +kernel)) (fun G4 ht4 l4 a4 => ?_)
  have L4 : gL G4 = [99, 100, 101, 102, 103, 104, 105, 106, 107, 108, 109, 110, 111, 112, 113, 114, 115, 116, 117, 118, 119, 120, 121, 122, 123, 124, 125, 127, 128, 129, 130, 131, 132, 133, 134, 126] := by rw [l4, L3]; rfl
  rw [mjz]
  refine p_putR (f := 3) (off := 28) (j := 126) (C := RX7) (T := TX7) (N := 4) (ty := tyX7) hX hp dX7_init_45 rfl (Nat.le_of_ble_eq_true rfl) rfl rfl w_498 inws_7 tyX7_ok nmX7 rfl (fun a => ⟨rfl, rfl⟩) rfl rfl ?_
  refine p_abs hX ht4 (all_of (by decide +kernel)) (by decide +kernel) (nin L4 (by decide +kernel)) (DNI_of L4 (by decide +kernel)) (CL_of L4 (by decide +kernel) (no6 (by decide +kernel))) (by rw [L4]; decide +kernel) (fun G5 ht5 l5 gi a5 hY => ?_)
  have L5 : gL G5 = [99, 100, 101, 102, 103, 104, 105, 106, 107, 108, 109, 110, 111, 112, 113, 114, 115, 116, 117, 118, 119, 120, 121, 122, 123, 124, 125, 127, 128, 129, 130, 131, 132, 133, 134, 126, 98] := by rw [l5, L4]; rfl
  exact x_cret (X := (xA X, G5, X.2.2)) hY (ht5.trans (by rw [eG]; rfl)) gi hA L5 dX7_init_48 (Nat.le_of_ble_eq_true rfl) (Nat.le_of_ble_eq_true rfl) rfl
set_option maxRecDepth 100000 in
set_option maxHeartbeats 4000000 in
theorem ci_X9_97 {l : Launch} {G : Gx} (hl : l.stackTraces = false) : Ci l G mX9_init 3 41 214 97 8 [99, 100, 101, 102, 103, 104, 105, 106, 107, 108, 109, 110, 111, 112, 113, 114, 115, 116, 117, 118, 119, 120, 121, 122, 123, 124, 125, 127, 128, 129, 130, 131, 132, 133, 134, 126, 98, 135, 136, 137, 138, 97] (fun _ _ => 0) := by
  refine Ci_of (own := RX9) (cc := cX9_init) (nL := 1) hl kX9_init rfl rfl rfl rfl (Nat.le_of_ble_eq_true rfl) rfl rfl (fun X h0 eG el hX hp hA => ?_)
  have ht0 : (gO G).2.2 = (xG X).2.2 := by rw [eG]
  have L0 : gL (gO G) = [] := rfl
  refine p_aload (j := 0) hX dX9_init_0 rfl ?_
  refine p_obj hX dX9_init_1 oi_X9 (Nat.le_of_ble_eq_true rfl) ?_
  refine p_aload (j := 0) hX dX9_init_4 rfl ?_
  refine p_new (Ls := [99, 100, 101, 102, 103, 104, 105, 106, 107, 108, 109, 110, 111, 112, 113, 114, 115, 116, 117, 118, 119, 120, 121, 122, 123, 124, 125, 127, 128, 129, 130, 131, 132, 133, 134, 126, 98]) (Ms := (fun _ _ => 0)) hX hp ht0 dX9_init_5 dX9_init_8 dX9_init_9 nw_X9_11 (ci_X7_98 (gl hX)) rfl (Nat.le_of_ble_eq_true rfl) (Nat.le_of_ble_eq_true rfl) (Nat.le_of_ble_eq_true rfl) (dis_of L0 (by decide +kernel)) (by decide) (by decide) (CL_of L0 (by decide +kernel) (no6 (by decide +kernel))) (fun Gs e => CL_of e (by decide +kernel) (no6 (by decide +kernel))) (DNI_of L0 (by decide +kernel)) (fun G1 ht1 l1 a1 => ?_)
  have L1 : gL G1 = [99, 100, 101, 102, 103, 104, 105, 106, 107, 108, 109, 110, 111, 112, 113, 114, 115, 116, 117, 118, 119, 120, 121, 122, 123, 124, 125, 127, 128, 129, 130, 131, 132, 133, 134, 126, 98] := by rw [l1, L0]; rfl
  rw [mjz]
  refine p_putR (f := 0) (off := 1) (j := 98) (C := RX9) (T := TX9) (N := 6) (ty := tyX9) hX hp dX9_init_12 rfl (Nat.le_of_ble_eq_true rfl) rfl rfl w_540 inws_8 tyX9_ok nmX9 rfl (fun a => ⟨rfl, rfl⟩) rfl rfl ?_
  refine p_aload (j := 0) hX dX9_init_15 rfl ?_
  refine p_bipush hX dX9_init_16 bp_8 ?_
  refine p_arrI (j := 135) (N := 8) hX hp ht1 dX9_init_18 w_248 (by decide +kernel) (by decide +kernel) (Nat.le_of_ble_eq_true rfl) (nin L1 (by decide +kernel)) (by decide) (CL_of L1 (by decide +kernel) (no6 (by decide +kernel))) (DNI_of L1 (by decide +kernel)) (Nat.le_of_ble_eq_true rfl) (Nat.le_of_ble_eq_true rfl) (fun G2 ht2 l2 a2 => ?_)
  have L2 : gL G2 = [99, 100, 101, 102, 103, 104, 105, 106, 107, 108, 109, 110, 111, 112, 113, 114, 115, 116, 117, 118, 119, 120, 121, 122, 123, 124, 125, 127, 128, 129, 130, 131, 132, 133, 134, 126, 98, 135] := by rw [l2, L1]; rfl
  rw [mjz]
  refine p_putR (f := 1) (off := 38) (j := 135) (C := RX9) (T := TX9) (N := 6) (ty := tyX9) hX hp dX9_init_20 rfl (Nat.le_of_ble_eq_true rfl) rfl rfl w_541 inws_8 tyX9_ok nmX9 rfl (fun a => ⟨rfl, rfl⟩) rfl rfl ?_
  refine p_aload (j := 0) hX dX9_init_23 rfl ?_
  refine p_bipush hX dX9_init_24 bp_8 ?_
  refine p_arrI (j := 136) (N := 8) hX hp ht2 dX9_init_26 w_248 (by decide +kernel) (by decide +kernel) (Nat.le_of_ble_eq_true rfl) (nin L2 (by decide +kernel)) (by decide) (CL_of L2 (by decide +kernel) (no6 (by decide +kernel))) (DNI_of L2 (by decide +kernel)) (Nat.le_of_ble_eq_true rfl) (Nat.le_of_ble_eq_true rfl) (fun G3 ht3 l3 a3 => ?_)
  have L3 : gL G3 = [99, 100, 101, 102, 103, 104, 105, 106, 107, 108, 109, 110, 111, 112, 113, 114, 115, 116, 117, 118, 119, 120, 121, 122, 123, 124, 125, 127, 128, 129, 130, 131, 132, 133, 134, 126, 98, 135, 136] := by rw [l3, L2]; rfl
  rw [mjz]
  refine p_putR (f := 2) (off := 39) (j := 136) (C := RX9) (T := TX9) (N := 6) (ty := tyX9) hX hp dX9_init_28 rfl (Nat.le_of_ble_eq_true rfl) rfl rfl w_542 inws_8 tyX9_ok nmX9 rfl (fun a => ⟨rfl, rfl⟩) rfl rfl ?_
  refine p_aload (j := 0) hX dX9_init_31 rfl ?_
  refine p_bipush hX dX9_init_32 bp_8 ?_
  refine p_arrI (j := 137) (N := 8) hX hp ht3 dX9_init_34 w_248 (by decide +kernel) (by decide +kernel) (Nat.le_of_ble_eq_true rfl) (nin L3 (by decide +kernel)) (by decide) (CL_of L3 (by decide +kernel) (no6 (by decide +kernel))) (DNI_of L3 (by decide +kernel)) (Nat.le_of_ble_eq_true rfl) (Nat.le_of_ble_eq_true rfl) (fun G4 ht4 l4 a4 => ?_)
  have L4 : gL G4 = [99, 100, 101, 102, 103, 104, 105, 106, 107, 108, 109, 110, 111, 112, 113, 114, 115, 116, 117, 118, 119, 120, 121, 122, 123, 124, 125, 127, 128, 129, 130, 131, 132, 133, 134, 126, 98, 135, 136, 137] := by rw [l4, L3]; rfl
  rw [mjz]
  refine p_putR (f := 3) (off := 40) (j := 137) (C := RX9) (T := TX9) (N := 6) (ty := tyX9) hX hp dX9_init_36 rfl (Nat.le_of_ble_eq_true rfl) rfl rfl w_543 inws_8 tyX9_ok nmX9 rfl (fun a => ⟨rfl, rfl⟩) rfl rfl ?_
  refine p_aload (j := 0) hX dX9_init_39 rfl ?_
  refine p_bipush hX dX9_init_40 bp_8 ?_
  refine p_arrI (j := 138) (N := 8) hX hp ht4 dX9_init_42 w_248 (by decide +kernel) (by decide +kernel) (Nat.le_of_ble_eq_true rfl) (nin L4 (by decide +kernel)) (by decide) (CL_of L4 (by decide +kernel) (no6 (by decide +kernel))) (DNI_of L4 (by decide +kernel)) (Nat.le_of_ble_eq_true rfl) (Nat.le_of_ble_eq_true rfl) (fun G5 ht5 l5 a5 => ?_)
  have L5 : gL G5 = [99, 100, 101, 102, 103, 104, 105, 106, 107, 108, 109, 110, 111, 112, 113, 114, 115, 116, 117, 118, 119, 120, 121, 122, 123, 124, 125, 127, 128, 129, 130, 131, 132, 133, 134, 126, 98, 135, 136, 137, 138] := by rw [l5, L4]; rfl
  rw [mjz]
  refine p_putR (f := 4) (off := 41) (j := 138) (C := RX9) (T := TX9) (N := 6) (ty := tyX9) hX hp dX9_init_44 rfl (Nat.le_of_ble_eq_true rfl) rfl rfl w_544 inws_8 tyX9_ok nmX9 rfl (fun a => ⟨rfl, rfl⟩) rfl rfl ?_
  refine p_abs hX ht5 (all_of (by decide +kernel)) (by decide +kernel) (nin L5 (by decide +kernel)) (DNI_of L5 (by decide +kernel)) (CL_of L5 (by decide +kernel) (no6 (by decide +kernel))) (by rw [L5]; decide +kernel) (fun G6 ht6 l6 gi a6 hY => ?_)
  have L6 : gL G6 = [99, 100, 101, 102, 103, 104, 105, 106, 107, 108, 109, 110, 111, 112, 113, 114, 115, 116, 117, 118, 119, 120, 121, 122, 123, 124, 125, 127, 128, 129, 130, 131, 132, 133, 134, 126, 98, 135, 136, 137, 138, 97] := by rw [l6, L5]; rfl
  exact x_cret (X := (xA X, G6, X.2.2)) hY (ht6.trans (by rw [eG]; rfl)) gi hA L6 dX9_init_47 (Nat.le_of_ble_eq_true rfl) (Nat.le_of_ble_eq_true rfl) rfl
set_option maxRecDepth 100000 in
set_option maxHeartbeats 4000000 in
theorem ci_X11_0 {l : Launch} {G : Gx} (hl : l.stackTraces = false) {Mr1 : Mem} (er1 : f_X3_reset 2 (fun _ _ => 0) = some Mr1) {Mr19 : Mem} (er19 : f_X3_reset 20 (fun _ _ => 0) = some Mr19) : Ci l G mX11_init 5 138 2135 0 10 [3, 4, 2, 6, 7, 8, 9, 5, 11, 12, 13, 14, 15, 16, 10, 18, 17, 1, 21, 22, 20, 24, 25, 26, 27, 23, 29, 30, 31, 32, 33, 34, 28, 36, 35, 19, 37, 39, 38, 41, 42, 43, 44, 45, 46, 47, 48, 40, 50, 51, 52, 53, 54, 55, 56, 57, 58, 59, 60, 61, 62, 63, 64, 65, 66, 67, 68, 69, 70, 71, 72, 73, 74, 75, 76, 78, 79, 80, 81, 82, 83, 84, 85, 77, 49, 88, 89, 90, 91, 92, 93, 94, 95, 87, 96, 86, 99, 100, 101, 102, 103, 104, 105, 106, 107, 108, 109, 110, 111, 112, 113, 114, 115, 116, 117, 118, 119, 120, 121, 122, 123, 124, 125, 127, 128, 129, 130, 131, 132, 133, 134, 126, 98, 135, 136, 137, 138, 97, 0] (mj (mj (mj (mj (mj (mj (mj (mj (fun _ _ => 0) Mr1 [3, 4, 2, 6, 7, 8, 9, 5, 11, 12, 13, 14, 15, 16, 10, 18, 17, 1]) Mr19 [21, 22, 20, 24, 25, 26, 27, 23, 29, 30, 31, 32, 33, 34, 28, 36, 35, 19]) (fun _ _ => 0) [37]) (upd2 (fun _ _ => 0) 38 3 (-1)) [39, 38]) (fun _ _ => 0) [41, 42, 43, 44, 45, 46, 47, 48, 40]) (fun _ _ => 0) [50, 51, 52, 53, 54, 55, 56, 57, 58, 59, 60, 61, 62, 63, 64, 65, 66, 67, 68, 69, 70, 71, 72, 73, 74, 75, 76, 78, 79, 80, 81, 82, 83, 84, 85, 77, 49]) (fun _ _ => 0) [88, 89, 90, 91, 92, 93, 94, 95, 87, 96, 86]) (fun _ _ => 0) [99, 100, 101, 102, 103, 104, 105, 106, 107, 108, 109, 110, 111, 112, 113, 114, 115, 116, 117, 118, 119, 120, 121, 122, 123, 124, 125, 127, 128, 129, 130, 131, 132, 133, 134, 126, 98, 135, 136, 137, 138, 97]) := by
  refine Ci_of (own := RX11) (cc := cX11_init) (nL := 1) hl kX11_init rfl rfl rfl rfl (Nat.le_of_ble_eq_true rfl) rfl rfl (fun X h0 eG el hX hp hA => ?_)
  have ht0 : (gO G).2.2 = (xG X).2.2 := by rw [eG]
  have L0 : gL (gO G) = [] := rfl
  refine p_aload (j := 0) hX dX11_init_0 rfl ?_
  refine p_obj hX dX11_init_1 oi_X11 (Nat.le_of_ble_eq_true rfl) ?_
  refine p_aload (j := 0) hX dX11_init_4 rfl ?_
  refine p_new (Ls := [3, 4, 2, 6, 7, 8, 9, 5, 11, 12, 13, 14, 15, 16, 10, 18, 17, 1]) (Ms := Mr1) hX hp ht0 dX11_init_5 dX11_init_8 dX11_init_9 nw_X11_9 (ci_X1_1 (gl hX) er1) rfl (Nat.le_of_ble_eq_true rfl) (Nat.le_of_ble_eq_true rfl) (Nat.le_of_ble_eq_true rfl) (dis_of L0 (by decide +kernel)) (by decide) (by decide) (CL_of L0 (by decide +kernel) (no6 (by decide +kernel))) (fun Gs e => CL_of e (by decide +kernel) (no6 (by decide +kernel))) (DNI_of L0 (by decide +kernel)) (fun G1 ht1 l1 a1 => ?_)
  have L1 : gL G1 = [3, 4, 2, 6, 7, 8, 9, 5, 11, 12, 13, 14, 15, 16, 10, 18, 17, 1] := by rw [l1, L0]; rfl
  refine p_putR (f := 0) (off := 1) (j := 1) (C := RX11) (T := TX11) (N := 8) (ty := tyX11) hX hp dX11_init_12 rfl (Nat.le_of_ble_eq_true rfl) rfl rfl w_559 inws_10 tyX11_ok nmX11 rfl (fun a => ⟨rfl, rfl⟩) rfl rfl ?_
  refine p_aload (j := 0) hX dX11_init_15 rfl ?_
  refine p_new (Ls := [21, 22, 20, 24, 25, 26, 27, 23, 29, 30, 31, 32, 33, 34, 28, 36, 35, 19]) (Ms := Mr19) hX hp ht1 dX11_init_16 dX11_init_19 dX11_init_20 nw_X11_9 (ci_X1_19 (gl hX) er19) rfl (Nat.le_of_ble_eq_true rfl) (Nat.le_of_ble_eq_true rfl) (Nat.le_of_ble_eq_true rfl) (dis_of L1 (by decide +kernel)) (by decide) (by decide) (CL_of L1 (by decide +kernel) (no6 (by decide +kernel))) (fun Gs e => CL_of e (by decide +kernel) (no6 (by decide +kernel))) (DNI_of L1 (by decide +kernel)) (fun G2 ht2 l2 a2 => ?_)
  have L2 : gL G2 = [3, 4, 2, 6, 7, 8, 9, 5, 11, 12, 13, 14, 15, 16, 10, 18, 17, 1, 21, 22, 20, 24, 25, 26, 27, 23, 29, 30, 31, 32, 33, 34, 28, 36, 35, 19] := by rw [l2, L1]; rfl
  refine p_putR (f := 1) (off := 19) (j := 19) (C := RX11) (T := TX11) (N := 8) (ty := tyX11) hX hp dX11_init_23 rfl (Nat.le_of_ble_eq_true rfl) rfl rfl w_560 inws_10 tyX11_ok nmX11 rfl (fun a => ⟨rfl, rfl⟩) rfl rfl ?_
  refine p_aload (j := 0) hX dX11_init_26 rfl ?_
  refine p_iconst hX dX11_init_27 ?_
  refine p_anew (j := 37) hX hp ht2 dX11_init_28 w_184 (by decide +kernel) (by decide +kernel) (nin L2 (by decide +kernel)) (by decide) (CL_of L2 (by decide +kernel) (no6 (by decide +kernel))) (DNI_of L2 (by decide +kernel)) (Nat.le_of_ble_eq_true rfl) (Nat.le_of_ble_eq_true rfl) (fun G3 ht3 l3 a3 => ?_)
  have L3 : gL G3 = [3, 4, 2, 6, 7, 8, 9, 5, 11, 12, 13, 14, 15, 16, 10, 18, 17, 1, 21, 22, 20, 24, 25, 26, 27, 23, 29, 30, 31, 32, 33, 34, 28, 36, 35, 19, 37] := by rw [l3, L2]; rfl
  refine p_putR (f := 2) (off := 37) (j := 37) (C := RX11) (T := TX11) (N := 8) (ty := tyX11) hX hp dX11_init_31 rfl (Nat.le_of_ble_eq_true rfl) rfl rfl w_561 inws_10 tyX11_ok nmX11 rfl (fun a => ⟨rfl, rfl⟩) rfl rfl ?_
  refine p_aload (j := 0) hX dX11_init_34 rfl ?_
  refine p_new (Ls := [39, 38]) (Ms := (upd2 (fun _ _ => 0) 38 3 (-1))) hX hp ht3 dX11_init_35 dX11_init_38 dX11_init_39 nw_X11_25 (ci_X10_38 (gl hX)) rfl (Nat.le_of_ble_eq_true rfl) (Nat.le_of_ble_eq_true rfl) (Nat.le_of_ble_eq_true rfl) (dis_of L3 (by decide +kernel)) (by decide) (by decide) (CL_of L3 (by decide +kernel) (fun i hi h6 => by
    have hi6 : i = 37 := (by decide +kernel : ∀ r ∈ [3, 4, 2, 6, 7, 8, 9, 5, 11, 12, 13, 14, 15, 16, 10, 18, 17, 1, 21, 22, 20, 24, 25, 26, 27, 23, 29, 30, 31, 32, 33, 34, 28, 36, 35, 19, 37], (kd r).1 = 6 → r = 37) i hi h6
    subst hi6
    intro j
    exact rfl)) (fun Gs e => CL_of e (by decide +kernel) (no6 (by decide +kernel))) (DNI_of L3 (by decide +kernel)) (fun G4 ht4 l4 a4 => ?_)
  have L4 : gL G4 = [3, 4, 2, 6, 7, 8, 9, 5, 11, 12, 13, 14, 15, 16, 10, 18, 17, 1, 21, 22, 20, 24, 25, 26, 27, 23, 29, 30, 31, 32, 33, 34, 28, 36, 35, 19, 37, 39, 38] := by rw [l4, L3]; rfl
  refine p_putR (f := 3) (off := 38) (j := 38) (C := RX11) (T := TX11) (N := 8) (ty := tyX11) hX hp dX11_init_42 rfl (Nat.le_of_ble_eq_true rfl) rfl rfl w_562 inws_10 tyX11_ok nmX11 rfl (fun a => ⟨rfl, rfl⟩) rfl rfl ?_
  refine p_aload (j := 0) hX dX11_init_45 rfl ?_
  refine p_new (Ls := [41, 42, 43, 44, 45, 46, 47, 48, 40]) (Ms := (fun _ _ => 0)) hX hp ht4 dX11_init_46 dX11_init_49 dX11_init_50 nw_X11_32 (ci_X6_40 (gl hX)) rfl (Nat.le_of_ble_eq_true rfl) (Nat.le_of_ble_eq_true rfl) (Nat.le_of_ble_eq_true rfl) (dis_of L4 (by decide +kernel)) (by decide) (by decide) (CL_of L4 (by decide +kernel) (fun i hi h6 => by
    have hi6 : i = 37 := (by decide +kernel : ∀ r ∈ [3, 4, 2, 6, 7, 8, 9, 5, 11, 12, 13, 14, 15, 16, 10, 18, 17, 1, 21, 22, 20, 24, 25, 26, 27, 23, 29, 30, 31, 32, 33, 34, 28, 36, 35, 19, 37, 39, 38], (kd r).1 = 6 → r = 37) i hi h6
    subst hi6
    intro j
    exact rfl)) (fun Gs e => CL_of e (by decide +kernel) (no6 (by decide +kernel))) (DNI_of L4 (by decide +kernel)) (fun G5 ht5 l5 a5 => ?_)
  have L5 : gL G5 = [3, 4, 2, 6, 7, 8, 9, 5, 11, 12, 13, 14, 15, 16, 10, 18, 17, 1, 21, 22, 20, 24, 25, 26, 27, 23, 29, 30, 31, 32, 33, 34, 28, 36, 35, 19, 37, 39, 38, 41, 42, 43, 44, 45, 46, 47, 48, 40] := by rw [l5, L4]; rfl
  refine p_putR (f := 4) (off := 40) (j := 40) (C := RX11) (T := TX11) (N := 8) (ty := tyX11) hX hp dX11_init_53 rfl (Nat.le_of_ble_eq_true rfl) rfl rfl w_563 inws_10 tyX11_ok nmX11 rfl (fun a => ⟨rfl, rfl⟩) rfl rfl ?_
  refine p_aload (j := 0) hX dX11_init_56 rfl ?_
  refine p_new (Ls := [50, 51, 52, 53, 54, 55, 56, 57, 58, 59, 60, 61, 62, 63, 64, 65, 66, 67, 68, 69, 70, 71, 72, 73, 74, 75, 76, 78, 79, 80, 81, 82, 83, 84, 85, 77, 49]) (Ms := (fun _ _ => 0)) hX hp ht5 dX11_init_57 dX11_init_60 dX11_init_61 nw_X11_39 (ci_X7_49 (gl hX)) rfl (Nat.le_of_ble_eq_true rfl) (Nat.le_of_ble_eq_true rfl) (Nat.le_of_ble_eq_true rfl) (dis_of L5 (by decide +kernel)) (by decide) (by decide) (CL_of L5 (by decide +kernel) (fun i hi h6 => by
    have hi6 : i = 37 := (by decide +kernel : ∀ r ∈ [3, 4, 2, 6, 7, 8, 9, 5, 11, 12, 13, 14, 15, 16, 10, 18, 17, 1, 21, 22, 20, 24, 25, 26, 27, 23, 29, 30, 31, 32, 33, 34, 28, 36, 35, 19, 37, 39, 38, 41, 42, 43, 44, 45, 46, 47, 48, 40], (kd r).1 = 6 → r = 37) i hi h6
    subst hi6
    intro j
    exact rfl)) (fun Gs e => CL_of e (by decide +kernel) (no6 (by decide +kernel))) (DNI_of L5 (by decide +kernel)) (fun G6 ht6 l6 a6 => ?_)
  have L6 : gL G6 = [3, 4, 2, 6, 7, 8, 9, 5, 11, 12, 13, 14, 15, 16, 10, 18, 17, 1, 21, 22, 20, 24, 25, 26, 27, 23, 29, 30, 31, 32, 33, 34, 28, 36, 35, 19, 37, 39, 38, 41, 42, 43, 44, 45, 46, 47, 48, 40, 50, 51, 52, 53, 54, 55, 56, 57, 58, 59, 60, 61, 62, 63, 64, 65, 66, 67, 68, 69, 70, 71, 72, 73, 74, 75, 76, 78, 79, 80, 81, 82, 83, 84, 85, 77, 49] := by rw [l6, L5]; rfl
  refine p_putR (f := 5) (off := 49) (j := 49) (C := RX11) (T := TX11) (N := 8) (ty := tyX11) hX hp dX11_init_64 rfl (Nat.le_of_ble_eq_true rfl) rfl rfl w_564 inws_10 tyX11_ok nmX11 rfl (fun a => ⟨rfl, rfl⟩) rfl rfl ?_
  refine p_aload (j := 0) hX dX11_init_67 rfl ?_
  refine p_new (Ls := [88, 89, 90, 91, 92, 93, 94, 95, 87, 96, 86]) (Ms := (fun _ _ => 0)) hX hp ht6 dX11_init_68 dX11_init_71 dX11_init_72 nw_X11_46 (ci_X4_86 (gl hX)) rfl (Nat.le_of_ble_eq_true rfl) (Nat.le_of_ble_eq_true rfl) (Nat.le_of_ble_eq_true rfl) (dis_of L6 (by decide +kernel)) (by decide) (by decide) (CL_of L6 (by decide +kernel) (fun i hi h6 => by
    have hi6 : i = 37 := (by decide +kernel : ∀ r ∈ [3, 4, 2, 6, 7, 8, 9, 5, 11, 12, 13, 14, 15, 16, 10, 18, 17, 1, 21, 22, 20, 24, 25, 26, 27, 23, 29, 30, 31, 32, 33, 34, 28, 36, 35, 19, 37, 39, 38, 41, 42, 43, 44, 45, 46, 47, 48, 40, 50, 51, 52, 53, 54, 55, 56, 57, 58, 59, 60, 61, 62, 63, 64, 65, 66, 67, 68, 69, 70, 71, 72, 73, 74, 75, 76, 78, 79, 80, 81, 82, 83, 84, 85, 77, 49], (kd r).1 = 6 → r = 37) i hi h6
    subst hi6
    intro j
    exact rfl)) (fun Gs e => CL_of e (by decide +kernel) (no6 (by decide +kernel))) (DNI_of L6 (by decide +kernel)) (fun G7 ht7 l7 a7 => ?_)
  have L7 : gL G7 = [3, 4, 2, 6, 7, 8, 9, 5, 11, 12, 13, 14, 15, 16, 10, 18, 17, 1, 21, 22, 20, 24, 25, 26, 27, 23, 29, 30, 31, 32, 33, 34, 28, 36, 35, 19, 37, 39, 38, 41, 42, 43, 44, 45, 46, 47, 48, 40, 50, 51, 52, 53, 54, 55, 56, 57, 58, 59, 60, 61, 62, 63, 64, 65, 66, 67, 68, 69, 70, 71, 72, 73, 74, 75, 76, 78, 79, 80, 81, 82, 83, 84, 85, 77, 49, 88, 89, 90, 91, 92, 93, 94, 95, 87, 96, 86] := by rw [l7, L6]; rfl
  refine p_putR (f := 6) (off := 86) (j := 86) (C := RX11) (T := TX11) (N := 8) (ty := tyX11) hX hp dX11_init_75 rfl (Nat.le_of_ble_eq_true rfl) rfl rfl w_565 inws_10 tyX11_ok nmX11 rfl (fun a => ⟨rfl, rfl⟩) rfl rfl ?_
  refine p_aload (j := 0) hX dX11_init_78 rfl ?_
  refine p_new (Ls := [99, 100, 101, 102, 103, 104, 105, 106, 107, 108, 109, 110, 111, 112, 113, 114, 115, 116, 117, 118, 119, 120, 121, 122, 123, 124, 125, 127, 128, 129, 130, 131, 132, 133, 134, 126, 98, 135, 136, 137, 138, 97]) (Ms := (fun _ _ => 0)) hX hp ht7 dX11_init_79 dX11_init_82 dX11_init_83 nw_X11_53 (ci_X9_97 (gl hX)) rfl (Nat.le_of_ble_eq_true rfl) (Nat.le_of_ble_eq_true rfl) (Nat.le_of_ble_eq_true rfl) (dis_of L7 (by decide +kernel)) (by decide) (by decide) (CL_of L7 (by decide +kernel) (fun i hi h6 => by
    have hi6 : i = 37 := (by decide +kernel : ∀ r ∈ [3, 4, 2, 6, 7, 8, 9, 5, 11, 12, 13, 14, 15, 16, 10, 18, 17, 1, 21, 22, 20, 24, 25, 26, 27, 23, 29, 30, 31, 32, 33, 34, 28, 36, 35, 19, 37, 39, 38, 41, 42, 43, 44, 45, 46, 47, 48, 40, 50, 51, 52, 53, 54, 55, 56, 57, 58, 59, 60, 61, 62, 63, 64, 65, 66, 67, 68, 69, 70, 71, 72, 73, 74, 75, 76, 78, 79, 80, 81, 82, 83, 84, 85, 77, 49, 88, 89, 90, 91, 92, 93, 94, 95, 87, 96, 86], (kd r).1 = 6 → r = 37) i hi h6
    subst hi6
    intro j
    exact rfl)) (fun Gs e => CL_of e (by decide +kernel) (no6 (by decide +kernel))) (DNI_of L7 (by decide +kernel)) (fun G8 ht8 l8 a8 => ?_)
  have L8 : gL G8 = [3, 4, 2, 6, 7, 8, 9, 5, 11, 12, 13, 14, 15, 16, 10, 18, 17, 1, 21, 22, 20, 24, 25, 26, 27, 23, 29, 30, 31, 32, 33, 34, 28, 36, 35, 19, 37, 39, 38, 41, 42, 43, 44, 45, 46, 47, 48, 40, 50, 51, 52, 53, 54, 55, 56, 57, 58, 59, 60, 61, 62, 63, 64, 65, 66, 67, 68, 69, 70, 71, 72, 73, 74, 75, 76, 78, 79, 80, 81, 82, 83, 84, 85, 77, 49, 88, 89, 90, 91, 92, 93, 94, 95, 87, 96, 86, 99, 100, 101, 102, 103, 104, 105, 106, 107, 108, 109, 110, 111, 112, 113, 114, 115, 116, 117, 118, 119, 120, 121, 122, 123, 124, 125, 127, 128, 129, 130, 131, 132, 133, 134, 126, 98, 135, 136, 137, 138, 97] := by rw [l8, L7]; rfl
  refine p_putR (f := 7) (off := 97) (j := 97) (C := RX11) (T := TX11) (N := 8) (ty := tyX11) hX hp dX11_init_86 rfl (Nat.le_of_ble_eq_true rfl) rfl rfl w_566 inws_10 tyX11_ok nmX11 rfl (fun a => ⟨rfl, rfl⟩) rfl rfl ?_
  refine p_abs hX ht8 (all_of (by decide +kernel)) (by decide +kernel) (nin L8 (by decide +kernel)) (DNI_of L8 (by decide +kernel)) (CL_of L8 (by decide +kernel) (fun i hi h6 => by
    have hi6 : i = 37 := (by decide +kernel : ∀ r ∈ [3, 4, 2, 6, 7, 8, 9, 5, 11, 12, 13, 14, 15, 16, 10, 18, 17, 1, 21, 22, 20, 24, 25, 26, 27, 23, 29, 30, 31, 32, 33, 34, 28, 36, 35, 19, 37, 39, 38, 41, 42, 43, 44, 45, 46, 47, 48, 40, 50, 51, 52, 53, 54, 55, 56, 57, 58, 59, 60, 61, 62, 63, 64, 65, 66, 67, 68, 69, 70, 71, 72, 73, 74, 75, 76, 78, 79, 80, 81, 82, 83, 84, 85, 77, 49, 88, 89, 90, 91, 92, 93, 94, 95, 87, 96, 86, 99, 100, 101, 102, 103, 104, 105, 106, 107, 108, 109, 110, 111, 112, 113, 114, 115, 116, 117, 118, 119, 120, 121, 122, 123, 124, 125, 127, 128, 129, 130, 131, 132, 133, 134, 126, 98, 135, 136, 137, 138, 97], (kd r).1 = 6 → r = 37) i hi h6
    subst hi6
    intro j
    exact rfl)) (by rw [L8]; decide +kernel) (fun G9 ht9 l9 gi a9 hY => ?_)
  have L9 : gL G9 = [3, 4, 2, 6, 7, 8, 9, 5, 11, 12, 13, 14, 15, 16, 10, 18, 17, 1, 21, 22, 20, 24, 25, 26, 27, 23, 29, 30, 31, 32, 33, 34, 28, 36, 35, 19, 37, 39, 38, 41, 42, 43, 44, 45, 46, 47, 48, 40, 50, 51, 52, 53, 54, 55, 56, 57, 58, 59, 60, 61, 62, 63, 64, 65, 66, 67, 68, 69, 70, 71, 72, 73, 74, 75, 76, 78, 79, 80, 81, 82, 83, 84, 85, 77, 49, 88, 89, 90, 91, 92, 93, 94, 95, 87, 96, 86, 99, 100, 101, 102, 103, 104, 105, 106, 107, 108, 109, 110, 111, 112, 113, 114, 115, 116, 117, 118, 119, 120, 121, 122, 123, 124, 125, 127, 128, 129, 130, 131, 132, 133, 134, 126, 98, 135, 136, 137, 138, 97, 0] := by rw [l9, L8]; rfl
  exact x_cret (X := (xA X, G9, X.2.2)) hY (ht9.trans (by rw [eG]; rfl)) gi hA L9 dX11_init_89 (Nat.le_of_ble_eq_true rfl) (Nat.le_of_ble_eq_true rfl) rfl
set_option maxRecDepth 100000 in
set_option maxHeartbeats 4000000 in
theorem ci_X3_161 {l : Launch} {G : Gx} (hl : l.stackTraces = false) : Ci l G mX3_init 1 2 5 161 3 [162, 163, 161] (fun _ _ => 0) := by
  refine Ci_of (own := RX3) (cc := cX3_init) (nL := 1) hl kX3_init rfl rfl rfl rfl (Nat.le_of_ble_eq_true rfl) rfl rfl (fun X h0 eG el hX hp hA => ?_)
  have ht0 : (gO G).2.2 = (xG X).2.2 := by rw [eG]
  have L0 : gL (gO G) = [] := rfl
  refine p_aload (j := 0) hX dX3_init_0 rfl ?_
  refine p_obj hX dX3_init_1 oi_X3 (Nat.le_of_ble_eq_true rfl) ?_
  refine p_aload (j := 0) hX dX3_init_4 rfl ?_
  refine p_iconst hX dX3_init_5 ?_
  refine p_arrI (j := 162) (N := 3) hX hp ht0 dX3_init_6 w_248 (by decide +kernel) (by decide +kernel) (Nat.le_of_ble_eq_true rfl) (nin L0 (by decide +kernel)) (by decide) (CL_of L0 (by decide +kernel) (no6 (by decide +kernel))) (DNI_of L0 (by decide +kernel)) (Nat.le_of_ble_eq_true rfl) (Nat.le_of_ble_eq_true rfl) (fun G1 ht1 l1 a1 => ?_)
  have L1 : gL G1 = [162] := by rw [l1, L0]; rfl
  rw [mjz]
  refine p_putR (f := 4) (off := 1) (j := 162) (C := RX3) (T := TX3) (N := 9) (ty := tyX3) hX hp dX3_init_8 rfl (Nat.le_of_ble_eq_true rfl) rfl rfl w_209 inws_3 tyX3_ok nmX3 rfl (fun a => ⟨rfl, rfl⟩) rfl rfl ?_
  refine p_aload (j := 0) hX dX3_init_11 rfl ?_
  refine p_iconst hX dX3_init_12 ?_
  refine p_arrI (j := 163) (N := 2) hX hp ht1 dX3_init_13 w_248 (by decide +kernel) (by decide +kernel) (Nat.le_of_ble_eq_true rfl) (nin L1 (by decide +kernel)) (by decide) (CL_of L1 (by decide +kernel) (no6 (by decide +kernel))) (DNI_of L1 (by decide +kernel)) (Nat.le_of_ble_eq_true rfl) (Nat.le_of_ble_eq_true rfl) (fun G2 ht2 l2 a2 => ?_)
  have L2 : gL G2 = [162, 163] := by rw [l2, L1]; rfl
  rw [mjz]
  refine p_putR (f := 8) (off := 2) (j := 163) (C := RX3) (T := TX3) (N := 9) (ty := tyX3) hX hp dX3_init_15 rfl (Nat.le_of_ble_eq_true rfl) rfl rfl w_225 inws_3 tyX3_ok nmX3 rfl (fun a => ⟨rfl, rfl⟩) rfl rfl ?_
  refine p_abs hX ht2 (all_of (by decide +kernel)) (by decide +kernel) (nin L2 (by decide +kernel)) (DNI_of L2 (by decide +kernel)) (CL_of L2 (by decide +kernel) (no6 (by decide +kernel))) (by rw [L2]; decide +kernel) (fun G3 ht3 l3 gi a3 hY => ?_)
  have L3 : gL G3 = [162, 163, 161] := by rw [l3, L2]; rfl
  exact x_cret (X := (xA X, G3, X.2.2)) hY (ht3.trans (by rw [eG]; rfl)) gi hA L3 dX3_init_18 (Nat.le_of_ble_eq_true rfl) (Nat.le_of_ble_eq_true rfl) rfl
set_option maxRecDepth 100000 in
set_option maxHeartbeats 4000000 in
theorem ci_X2_164 {l : Launch} {G : Gx} (hl : l.stackTraces = false) : Ci l G mX2_init 1 4 96 164 2 [165, 166, 167, 168, 164] (fun _ _ => 0) := by
  refine Ci_of (own := RX2) (cc := cX2_init) (nL := 1) hl kX2_init rfl rfl rfl rfl (Nat.le_of_ble_eq_true rfl) rfl rfl (fun X h0 eG el hX hp hA => ?_)
  have ht0 : (gO G).2.2 = (xG X).2.2 := by rw [eG]
  have L0 : gL (gO G) = [] := rfl
  refine p_aload (j := 0) hX dX2_init_0 rfl ?_
  refine p_obj hX dX2_init_1 oi_X2 (Nat.le_of_ble_eq_true rfl) ?_
  refine p_aload (j := 0) hX dX2_init_4 rfl ?_
  refine p_bipush hX dX2_init_5 bp_24 ?_
  refine p_arrI (j := 165) (N := 24) hX hp ht0 dX2_init_7 w_248 (by decide +kernel) (by decide +kernel) (Nat.le_of_ble_eq_true rfl) (nin L0 (by decide +kernel)) (by decide) (CL_of L0 (by decide +kernel) (no6 (by decide +kernel))) (DNI_of L0 (by decide +kernel)) (Nat.le_of_ble_eq_true rfl) (Nat.le_of_ble_eq_true rfl) (fun G1 ht1 l1 a1 => ?_)
  have L1 : gL G1 = [165] := by rw [l1, L0]; rfl
  rw [mjz]
  refine p_putR (f := 1) (off := 1) (j := 165) (C := RX2) (T := TX2) (N := 5) (ty := tyX2) hX hp dX2_init_9 rfl (Nat.le_of_ble_eq_true rfl) rfl rfl w_260 inws_2 tyX2_ok nmX2 rfl (fun a => ⟨rfl, rfl⟩) rfl rfl ?_
  refine p_aload (j := 0) hX dX2_init_12 rfl ?_
  refine p_bipush hX dX2_init_13 bp_24 ?_
  refine p_arrI (j := 166) (N := 24) hX hp ht1 dX2_init_15 w_248 (by decide +kernel) (by decide +kernel) (Nat.le_of_ble_eq_true rfl) (nin L1 (by decide +kernel)) (by decide) (CL_of L1 (by decide +kernel) (no6 (by decide +kernel))) (DNI_of L1 (by decide +kernel)) (Nat.le_of_ble_eq_true rfl) (Nat.le_of_ble_eq_true rfl) (fun G2 ht2 l2 a2 => ?_)
  have L2 : gL G2 = [165, 166] := by rw [l2, L1]; rfl
  rw [mjz]
  refine p_putR (f := 2) (off := 2) (j := 166) (C := RX2) (T := TX2) (N := 5) (ty := tyX2) hX hp dX2_init_17 rfl (Nat.le_of_ble_eq_true rfl) rfl rfl w_263 inws_2 tyX2_ok nmX2 rfl (fun a => ⟨rfl, rfl⟩) rfl rfl ?_
  refine p_aload (j := 0) hX dX2_init_20 rfl ?_
  refine p_bipush hX dX2_init_21 bp_24 ?_
  refine p_arrI (j := 167) (N := 24) hX hp ht2 dX2_init_23 w_248 (by decide +kernel) (by decide +kernel) (Nat.le_of_ble_eq_true rfl) (nin L2 (by decide +kernel)) (by decide) (CL_of L2 (by decide +kernel) (no6 (by decide +kernel))) (DNI_of L2 (by decide +kernel)) (Nat.le_of_ble_eq_true rfl) (Nat.le_of_ble_eq_true rfl) (fun G3 ht3 l3 a3 => ?_)
  have L3 : gL G3 = [165, 166, 167] := by rw [l3, L2]; rfl
  rw [mjz]
  refine p_putR (f := 3) (off := 3) (j := 167) (C := RX2) (T := TX2) (N := 5) (ty := tyX2) hX hp dX2_init_25 rfl (Nat.le_of_ble_eq_true rfl) rfl rfl w_265 inws_2 tyX2_ok nmX2 rfl (fun a => ⟨rfl, rfl⟩) rfl rfl ?_
  refine p_aload (j := 0) hX dX2_init_28 rfl ?_
  refine p_bipush hX dX2_init_29 bp_24 ?_
  refine p_arrI (j := 168) (N := 24) hX hp ht3 dX2_init_31 w_248 (by decide +kernel) (by decide +kernel) (Nat.le_of_ble_eq_true rfl) (nin L3 (by decide +kernel)) (by decide) (CL_of L3 (by decide +kernel) (no6 (by decide +kernel))) (DNI_of L3 (by decide +kernel)) (Nat.le_of_ble_eq_true rfl) (Nat.le_of_ble_eq_true rfl) (fun G4 ht4 l4 a4 => ?_)
  have L4 : gL G4 = [165, 166, 167, 168] := by rw [l4, L3]; rfl
  rw [mjz]
  refine p_putR (f := 4) (off := 4) (j := 168) (C := RX2) (T := TX2) (N := 5) (ty := tyX2) hX hp dX2_init_33 rfl (Nat.le_of_ble_eq_true rfl) rfl rfl w_267 inws_2 tyX2_ok nmX2 rfl (fun a => ⟨rfl, rfl⟩) rfl rfl ?_
  refine p_abs hX ht4 (all_of (by decide +kernel)) (by decide +kernel) (nin L4 (by decide +kernel)) (DNI_of L4 (by decide +kernel)) (CL_of L4 (by decide +kernel) (no6 (by decide +kernel))) (by rw [L4]; decide +kernel) (fun G5 ht5 l5 gi a5 hY => ?_)
  have L5 : gL G5 = [165, 166, 167, 168, 164] := by rw [l5, L4]; rfl
  exact x_cret (X := (xA X, G5, X.2.2)) hY (ht5.trans (by rw [eG]; rfl)) gi hA L5 dX2_init_36 (Nat.le_of_ble_eq_true rfl) (Nat.le_of_ble_eq_true rfl) rfl
set_option maxRecDepth 100000 in
set_option maxHeartbeats 4000000 in
theorem ci_X5_169 {l : Launch} {G : Gx} (hl : l.stackTraces = false) : Ci l G mX5_init 1 6 336 169 5 [170, 171, 172, 173, 174, 175, 169] (fun _ _ => 0) := by
  refine Ci_of (own := RX5) (cc := cX5_init) (nL := 1) hl kX5_init rfl rfl rfl rfl (Nat.le_of_ble_eq_true rfl) rfl rfl (fun X h0 eG el hX hp hA => ?_)
  have ht0 : (gO G).2.2 = (xG X).2.2 := by rw [eG]
  have L0 : gL (gO G) = [] := rfl
  refine p_aload (j := 0) hX dX5_init_0 rfl ?_
  refine p_obj hX dX5_init_1 oi_X5 (Nat.le_of_ble_eq_true rfl) ?_
  refine p_aload (j := 0) hX dX5_init_4 rfl ?_
  refine p_bipush hX dX5_init_5 bp_16 ?_
  refine p_arrI (j := 170) (N := 16) hX hp ht0 dX5_init_7 w_248 (by decide +kernel) (by decide +kernel) (Nat.le_of_ble_eq_true rfl) (nin L0 (by decide +kernel)) (by decide) (CL_of L0 (by decide +kernel) (no6 (by decide +kernel))) (DNI_of L0 (by decide +kernel)) (Nat.le_of_ble_eq_true rfl) (Nat.le_of_ble_eq_true rfl) (fun G1 ht1 l1 a1 => ?_)
  have L1 : gL G1 = [170] := by rw [l1, L0]; rfl
  rw [mjz]
  refine p_putR (f := 2) (off := 1) (j := 170) (C := RX5) (T := TX5) (N := 8) (ty := tyX5) hX hp dX5_init_9 rfl (Nat.le_of_ble_eq_true rfl) rfl rfl w_295 inws_5 tyX5_ok nmX5 rfl (fun a => ⟨rfl, rfl⟩) rfl rfl ?_
  refine p_aload (j := 0) hX dX5_init_12 rfl ?_
  refine p_bipush hX dX5_init_13 bp_16 ?_
  refine p_arrI (j := 171) (N := 16) hX hp ht1 dX5_init_15 w_248 (by decide +kernel) (by decide +kernel) (Nat.le_of_ble_eq_true rfl) (nin L1 (by decide +kernel)) (by decide) (CL_of L1 (by decide +kernel) (no6 (by decide +kernel))) (DNI_of L1 (by decide +kernel)) (Nat.le_of_ble_eq_true rfl) (Nat.le_of_ble_eq_true rfl) (fun G2 ht2 l2 a2 => ?_)
  have L2 : gL G2 = [170, 171] := by rw [l2, L1]; rfl
  rw [mjz]
  refine p_putR (f := 3) (off := 2) (j := 171) (C := RX5) (T := TX5) (N := 8) (ty := tyX5) hX hp dX5_init_17 rfl (Nat.le_of_ble_eq_true rfl) rfl rfl w_299 inws_5 tyX5_ok nmX5 rfl (fun a => ⟨rfl, rfl⟩) rfl rfl ?_
  refine p_aload (j := 0) hX dX5_init_20 rfl ?_
  refine p_bipush hX dX5_init_21 bp_16 ?_
  refine p_arrI (j := 172) (N := 16) hX hp ht2 dX5_init_23 w_248 (by decide +kernel) (by decide +kernel) (Nat.le_of_ble_eq_true rfl) (nin L2 (by decide +kernel)) (by decide) (CL_of L2 (by decide +kernel) (no6 (by decide +kernel))) (DNI_of L2 (by decide +kernel)) (Nat.le_of_ble_eq_true rfl) (Nat.le_of_ble_eq_true rfl) (fun G3 ht3 l3 a3 => ?_)
  have L3 : gL G3 = [170, 171, 172] := by rw [l3, L2]; rfl
  rw [mjz]
  refine p_putR (f := 4) (off := 3) (j := 172) (C := RX5) (T := TX5) (N := 8) (ty := tyX5) hX hp dX5_init_25 rfl (Nat.le_of_ble_eq_true rfl) rfl rfl w_302 inws_5 tyX5_ok nmX5 rfl (fun a => ⟨rfl, rfl⟩) rfl rfl ?_
  refine p_aload (j := 0) hX dX5_init_28 rfl ?_
  refine p_bipush hX dX5_init_29 bp_96 ?_
  refine p_arrI (j := 173) (N := 96) hX hp ht3 dX5_init_31 w_248 (by decide +kernel) (by decide +kernel) (Nat.le_of_ble_eq_true rfl) (nin L3 (by decide +kernel)) (by decide) (CL_of L3 (by decide +kernel) (no6 (by decide +kernel))) (DNI_of L3 (by decide +kernel)) (Nat.le_of_ble_eq_true rfl) (Nat.le_of_ble_eq_true rfl) (fun G4 ht4 l4 a4 => ?_)
  have L4 : gL G4 = [170, 171, 172, 173] := by rw [l4, L3]; rfl
  rw [mjz]
  refine p_putR (f := 5) (off := 4) (j := 173) (C := RX5) (T := TX5) (N := 8) (ty := tyX5) hX hp dX5_init_33 rfl (Nat.le_of_ble_eq_true rfl) rfl rfl w_305 inws_5 tyX5_ok nmX5 rfl (fun a => ⟨rfl, rfl⟩) rfl rfl ?_
  refine p_aload (j := 0) hX dX5_init_36 rfl ?_
  refine p_bipush hX dX5_init_37 bp_96 ?_
  refine p_arrI (j := 174) (N := 96) hX hp ht4 dX5_init_39 w_248 (by decide +kernel) (by decide +kernel) (Nat.le_of_ble_eq_true rfl) (nin L4 (by decide +kernel)) (by decide) (CL_of L4 (by decide +kernel) (no6 (by decide +kernel))) (DNI_of L4 (by decide +kernel)) (Nat.le_of_ble_eq_true rfl) (Nat.le_of_ble_eq_true rfl) (fun G5 ht5 l5 a5 => ?_)
  have L5 : gL G5 = [170, 171, 172, 173, 174] := by rw [l5, L4]; rfl
  rw [mjz]
  refine p_putR (f := 6) (off := 5) (j := 174) (C := RX5) (T := TX5) (N := 8) (ty := tyX5) hX hp dX5_init_41 rfl (Nat.le_of_ble_eq_true rfl) rfl rfl w_307 inws_5 tyX5_ok nmX5 rfl (fun a => ⟨rfl, rfl⟩) rfl rfl ?_
  refine p_aload (j := 0) hX dX5_init_44 rfl ?_
  refine p_bipush hX dX5_init_45 bp_96 ?_
  refine p_arrI (j := 175) (N := 96) hX hp ht5 dX5_init_47 w_248 (by decide +kernel) (by decide +kernel) (Nat.le_of_ble_eq_true rfl) (nin L5 (by decide +kernel)) (by decide) (CL_of L5 (by decide +kernel) (no6 (by decide +kernel))) (DNI_of L5 (by decide +kernel)) (Nat.le_of_ble_eq_true rfl) (Nat.le_of_ble_eq_true rfl) (fun G6 ht6 l6 a6 => ?_)
  have L6 : gL G6 = [170, 171, 172, 173, 174, 175] := by rw [l6, L5]; rfl
  rw [mjz]
  refine p_putR (f := 7) (off := 6) (j := 175) (C := RX5) (T := TX5) (N := 8) (ty := tyX5) hX hp dX5_init_49 rfl (Nat.le_of_ble_eq_true rfl) rfl rfl w_309 inws_5 tyX5_ok nmX5 rfl (fun a => ⟨rfl, rfl⟩) rfl rfl ?_
  refine p_abs hX ht6 (all_of (by decide +kernel)) (by decide +kernel) (nin L6 (by decide +kernel)) (DNI_of L6 (by decide +kernel)) (CL_of L6 (by decide +kernel) (no6 (by decide +kernel))) (by rw [L6]; decide +kernel) (fun G7 ht7 l7 gi a7 hY => ?_)
  have L7 : gL G7 = [170, 171, 172, 173, 174, 175, 169] := by rw [l7, L6]; rfl
  exact x_cret (X := (xA X, G7, X.2.2)) hY (ht7.trans (by rw [eG]; rfl)) gi hA L7 dX5_init_52 (Nat.le_of_ble_eq_true rfl) (Nat.le_of_ble_eq_true rfl) rfl
set_option maxRecDepth 100000 in
set_option maxHeartbeats 4000000 in
theorem ci_X0_176 {l : Launch} {G : Gx} (hl : l.stackTraces = false) : Ci l G mX0_init 1 1 8 176 0 [177, 176] (fun _ _ => 0) := by
  refine Ci_of (own := RX0) (cc := cX0_init) (nL := 1) hl kX0_init rfl rfl rfl rfl (Nat.le_of_ble_eq_true rfl) rfl rfl (fun X h0 eG el hX hp hA => ?_)
  have ht0 : (gO G).2.2 = (xG X).2.2 := by rw [eG]
  have L0 : gL (gO G) = [] := rfl
  refine p_aload (j := 0) hX dX0_init_0 rfl ?_
  refine p_obj hX dX0_init_1 oi_X0 (Nat.le_of_ble_eq_true rfl) ?_
  refine p_aload (j := 0) hX dX0_init_4 rfl ?_
  refine p_bipush hX dX0_init_5 bp_8 ?_
  refine p_arrI (j := 177) (N := 8) hX hp ht0 dX0_init_7 w_248 (by decide +kernel) (by decide +kernel) (Nat.le_of_ble_eq_true rfl) (nin L0 (by decide +kernel)) (by decide) (CL_of L0 (by decide +kernel) (no6 (by decide +kernel))) (DNI_of L0 (by decide +kernel)) (Nat.le_of_ble_eq_true rfl) (Nat.le_of_ble_eq_true rfl) (fun G1 ht1 l1 a1 => ?_)
  have L1 : gL G1 = [177] := by rw [l1, L0]; rfl
  rw [mjz]
  refine p_putR (f := 1) (off := 1) (j := 177) (C := RX0) (T := TX0) (N := 2) (ty := tyX0) hX hp dX0_init_9 rfl (Nat.le_of_ble_eq_true rfl) rfl rfl w_341 inws_0 tyX0_ok nmX0 rfl (fun a => ⟨rfl, rfl⟩) rfl rfl ?_
  refine p_abs hX ht1 (all_of (by decide +kernel)) (by decide +kernel) (nin L1 (by decide +kernel)) (DNI_of L1 (by decide +kernel)) (CL_of L1 (by decide +kernel) (no6 (by decide +kernel))) (by rw [L1]; decide +kernel) (fun G2 ht2 l2 gi a2 hY => ?_)
  have L2 : gL G2 = [177, 176] := by rw [l2, L1]; rfl
  exact x_cret (X := (xA X, G2, X.2.2)) hY (ht2.trans (by rw [eG]; rfl)) gi hA L2 dX0_init_12 (Nat.le_of_ble_eq_true rfl) (Nat.le_of_ble_eq_true rfl) rfl
set_option maxRecDepth 100000 in
set_option maxHeartbeats 4000000 in
theorem ci_X1_160 {l : Launch} {G : Gx} (hl : l.stackTraces = false) {Mr160 : Mem} (er160 : f_X3_reset 161 (fun _ _ => 0) = some Mr160) : Ci l G mX1_init 4 17 469 160 1 [162, 163, 161, 165, 166, 167, 168, 164, 170, 171, 172, 173, 174, 175, 169, 177, 176, 160] Mr160 := by
  refine Ci_of (own := RX1) (cc := cX1_init) (nL := 1) hl kX1_init rfl rfl rfl rfl (Nat.le_of_ble_eq_true rfl) rfl rfl (fun X h0 eG el hX hp hA => ?_)
  have ht0 : (gO G).2.2 = (xG X).2.2 := by rw [eG]
  have L0 : gL (gO G) = [] := rfl
  refine p_aload (j := 0) hX dX1_init_0 rfl ?_
  refine p_obj hX dX1_init_1 oi_X1 (Nat.le_of_ble_eq_true rfl) ?_
  refine p_aload (j := 0) hX dX1_init_4 rfl ?_
  refine p_new (Ls := [162, 163, 161]) (Ms := (fun _ _ => 0)) hX hp ht0 dX1_init_5 dX1_init_8 dX1_init_9 nw_X1_11 (ci_X3_161 (gl hX)) rfl (Nat.le_of_ble_eq_true rfl) (Nat.le_of_ble_eq_true rfl) (Nat.le_of_ble_eq_true rfl) (dis_of L0 (by decide +kernel)) (by decide) (by decide) (CL_of L0 (by decide +kernel) (no6 (by decide +kernel))) (fun Gs e => CL_of e (by decide +kernel) (no6 (by decide +kernel))) (DNI_of L0 (by decide +kernel)) (fun G1 ht1 l1 a1 => ?_)
  have L1 : gL G1 = [162, 163, 161] := by rw [l1, L0]; rfl
  rw [mjz]
  refine p_putR (f := 0) (off := 1) (j := 161) (C := RX1) (T := TX1) (N := 4) (ty := tyX1) hX hp dX1_init_12 rfl (Nat.le_of_ble_eq_true rfl) rfl rfl w_364 inws_1 tyX1_ok nmX1 rfl (fun a => ⟨rfl, rfl⟩) rfl rfl ?_
  refine p_aload (j := 0) hX dX1_init_15 rfl ?_
  refine p_new (Ls := [165, 166, 167, 168, 164]) (Ms := (fun _ _ => 0)) hX hp ht1 dX1_init_16 dX1_init_19 dX1_init_20 nw_X1_20 (ci_X2_164 (gl hX)) rfl (Nat.le_of_ble_eq_true rfl) (Nat.le_of_ble_eq_true rfl) (Nat.le_of_ble_eq_true rfl) (dis_of L1 (by decide +kernel)) (by decide) (by decide) (CL_of L1 (by decide +kernel) (no6 (by decide +kernel))) (fun Gs e => CL_of e (by decide +kernel) (no6 (by decide +kernel))) (DNI_of L1 (by decide +kernel)) (fun G2 ht2 l2 a2 => ?_)
  have L2 : gL G2 = [162, 163, 161, 165, 166, 167, 168, 164] := by rw [l2, L1]; rfl
  rw [mjz]
  refine p_putR (f := 1) (off := 4) (j := 164) (C := RX1) (T := TX1) (N := 4) (ty := tyX1) hX hp dX1_init_23 rfl (Nat.le_of_ble_eq_true rfl) rfl rfl w_371 inws_1 tyX1_ok nmX1 rfl (fun a => ⟨rfl, rfl⟩) rfl rfl ?_
  refine p_aload (j := 0) hX dX1_init_26 rfl ?_
  refine p_new (Ls := [170, 171, 172, 173, 174, 175, 169]) (Ms := (fun _ _ => 0)) hX hp ht2 dX1_init_27 dX1_init_30 dX1_init_31 nw_X1_27 (ci_X5_169 (gl hX)) rfl (Nat.le_of_ble_eq_true rfl) (Nat.le_of_ble_eq_true rfl) (Nat.le_of_ble_eq_true rfl) (dis_of L2 (by decide +kernel)) (by decide) (by decide) (CL_of L2 (by decide +kernel) (no6 (by decide +kernel))) (fun Gs e => CL_of e (by decide +kernel) (no6 (by decide +kernel))) (DNI_of L2 (by decide +kernel)) (fun G3 ht3 l3 a3 => ?_)
  have L3 : gL G3 = [162, 163, 161, 165, 166, 167, 168, 164, 170, 171, 172, 173, 174, 175, 169] := by rw [l3, L2]; rfl
  rw [mjz]
  refine p_putR (f := 2) (off := 9) (j := 169) (C := RX1) (T := TX1) (N := 4) (ty := tyX1) hX hp dX1_init_34 rfl (Nat.le_of_ble_eq_true rfl) rfl rfl w_375 inws_1 tyX1_ok nmX1 rfl (fun a => ⟨rfl, rfl⟩) rfl rfl ?_
  refine p_aload (j := 0) hX dX1_init_37 rfl ?_
  refine p_new (Ls := [177, 176]) (Ms := (fun _ _ => 0)) hX hp ht3 dX1_init_38 dX1_init_41 dX1_init_42 nw_X1_34 (ci_X0_176 (gl hX)) rfl (Nat.le_of_ble_eq_true rfl) (Nat.le_of_ble_eq_true rfl) (Nat.le_of_ble_eq_true rfl) (dis_of L3 (by decide +kernel)) (by decide) (by decide) (CL_of L3 (by decide +kernel) (no6 (by decide +kernel))) (fun Gs e => CL_of e (by decide +kernel) (no6 (by decide +kernel))) (DNI_of L3 (by decide +kernel)) (fun G4 ht4 l4 a4 => ?_)
  have L4 : gL G4 = [162, 163, 161, 165, 166, 167, 168, 164, 170, 171, 172, 173, 174, 175, 169, 177, 176] := by rw [l4, L3]; rfl
  rw [mjz]
  refine p_putR (f := 3) (off := 16) (j := 176) (C := RX1) (T := TX1) (N := 4) (ty := tyX1) hX hp dX1_init_45 rfl (Nat.le_of_ble_eq_true rfl) rfl rfl w_380 inws_1 tyX1_ok nmX1 rfl (fun a => ⟨rfl, rfl⟩) rfl rfl ?_
  refine p_abs hX ht4 (all_of (by decide +kernel)) (by decide +kernel) (nin L4 (by decide +kernel)) (DNI_of L4 (by decide +kernel)) (CL_of L4 (by decide +kernel) (no6 (by decide +kernel))) (by rw [L4]; decide +kernel) (fun G5 ht5 l5 gi a5 hY => ?_)
  have L5 : gL G5 = [162, 163, 161, 165, 166, 167, 168, 164, 170, 171, 172, 173, 174, 175, 169, 177, 176, 160] := by rw [l5, L4]; rfl
  have e0 : (Value.ref h0) = vr (xG (xA X, G5, X.2.2)) 160 := by show _ = Value.ref (gad G5 160); rw [gi]
  rw [e0]
  refine x_aloadn hY dX1_init_48 rfl ?_
  have hi : at_ (xG (xA X, G5, X.2.2)) 160 11 0 := ⟨by show _ ∈ gL G5; rw [L5]; decide +kernel, by decide +kernel⟩
  refine x_getRj (j := 161) hY dX1_init_49 fl_X1_12 rfl hi rfl ?_
  refine x_callVv (t := 3) (As := []) (rest := []) hY dX1_init_52 (c_X3_reset (gk hY) (gl hY) (fo_1_0 (gk hY) hi) _ _ er160) kX3_reset vX3_reset w_352 (fo_1_0 (gk hY) hi) rfl rfl rfl rfl (Nat.le_of_ble_eq_true rfl) ⟨Nat.le_trans (Nat.le_of_ble_eq_true rfl) (Nat.le_of_eq hp.2.2.1.symm), Nat.le_trans (Nat.le_of_ble_eq_true rfl) (Nat.le_of_eq hp.2.2.2.symm)⟩ ?_
  exact x_cret (X := (xA X, G5, X.2.2)) hY (ht5.trans (by rw [eG]; rfl)) gi hA L5 dX1_init_55 (Nat.le_of_ble_eq_true rfl) (Nat.le_of_ble_eq_true rfl) rfl
set_option maxRecDepth 100000 in
set_option maxHeartbeats 4000000 in
theorem ci_X3_179 {l : Launch} {G : Gx} (hl : l.stackTraces = false) : Ci l G mX3_init 1 2 5 179 3 [180, 181, 179] (fun _ _ => 0) := by
  refine Ci_of (own := RX3) (cc := cX3_init) (nL := 1) hl kX3_init rfl rfl rfl rfl (Nat.le_of_ble_eq_true rfl) rfl rfl (fun X h0 eG el hX hp hA => ?_)
  have ht0 : (gO G).2.2 = (xG X).2.2 := by rw [eG]
  have L0 : gL (gO G) = [] := rfl
  refine p_aload (j := 0) hX dX3_init_0 rfl ?_
  refine p_obj hX dX3_init_1 oi_X3 (Nat.le_of_ble_eq_true rfl) ?_
  refine p_aload (j := 0) hX dX3_init_4 rfl ?_
  refine p_iconst hX dX3_init_5 ?_
  refine p_arrI (j := 180) (N := 3) hX hp ht0 dX3_init_6 w_248 (by decide +kernel) (by decide +kernel) (Nat.le_of_ble_eq_true rfl) (nin L0 (by decide +kernel)) (by decide) (CL_of L0 (by decide +kernel) (no6 (by decide +kernel))) (DNI_of L0 (by decide +kernel)) (Nat.le_of_ble_eq_true rfl) (Nat.le_of_ble_eq_true rfl) (fun G1 ht1 l1 a1 => ?_)
  have L1 : gL G1 = [180] := by rw [l1, L0]; rfl
  rw [mjz]
  refine p_putR (f := 4) (off := 1) (j := 180) (C := RX3) (T := TX3) (N := 9) (ty := tyX3) hX hp dX3_init_8 rfl (Nat.le_of_ble_eq_true rfl) rfl rfl w_209 inws_3 tyX3_ok nmX3 rfl (fun a => ⟨rfl, rfl⟩) rfl rfl ?_
  refine p_aload (j := 0) hX dX3_init_11 rfl ?_
  refine p_iconst hX dX3_init_12 ?_
  refine p_arrI (j := 181) (N := 2) hX hp ht1 dX3_init_13 w_248 (by decide +kernel) (by decide +kernel) (Nat.le_of_ble_eq_true rfl) (nin L1 (by decide +kernel)) (by decide) (CL_of L1 (by decide +kernel) (no6 (by decide +kernel))) (DNI_of L1 (by decide +kernel)) (Nat.le_of_ble_eq_true rfl) (Nat.le_of_ble_eq_true rfl) (fun G2 ht2 l2 a2 => ?_)
  have L2 : gL G2 = [180, 181] := by rw [l2, L1]; rfl
  rw [mjz]
  refine p_putR (f := 8) (off := 2) (j := 181) (C := RX3) (T := TX3) (N := 9) (ty := tyX3) hX hp dX3_init_15 rfl (Nat.le_of_ble_eq_true rfl) rfl rfl w_225 inws_3 tyX3_ok nmX3 rfl (fun a => ⟨rfl, rfl⟩) rfl rfl ?_
  refine p_abs hX ht2 (all_of (by decide +kernel)) (by decide +kernel) (nin L2 (by decide +kernel)) (DNI_of L2 (by decide +kernel)) (CL_of L2 (by decide +kernel) (no6 (by decide +kernel))) (by rw [L2]; decide +kernel) (fun G3 ht3 l3 gi a3 hY => ?_)
  have L3 : gL G3 = [180, 181, 179] := by rw [l3, L2]; rfl
  exact x_cret (X := (xA X, G3, X.2.2)) hY (ht3.trans (by rw [eG]; rfl)) gi hA L3 dX3_init_18 (Nat.le_of_ble_eq_true rfl) (Nat.le_of_ble_eq_true rfl) rfl
set_option maxRecDepth 100000 in
set_option maxHeartbeats 4000000 in
theorem ci_X2_182 {l : Launch} {G : Gx} (hl : l.stackTraces = false) : Ci l G mX2_init 1 4 96 182 2 [183, 184, 185, 186, 182] (fun _ _ => 0) := by
  refine Ci_of (own := RX2) (cc := cX2_init) (nL := 1) hl kX2_init rfl rfl rfl rfl (Nat.le_of_ble_eq_true rfl) rfl rfl (fun X h0 eG el hX hp hA => ?_)
  have ht0 : (gO G).2.2 = (xG X).2.2 := by rw [eG]
  have L0 : gL (gO G) = [] := rfl
  refine p_aload (j := 0) hX dX2_init_0 rfl ?_
  refine p_obj hX dX2_init_1 oi_X2 (Nat.le_of_ble_eq_true rfl) ?_
  refine p_aload (j := 0) hX dX2_init_4 rfl ?_
  refine p_bipush hX dX2_init_5 bp_24 ?_
  refine p_arrI (j := 183) (N := 24) hX hp ht0 dX2_init_7 w_248 (by decide +kernel) (by decide +kernel) (Nat.le_of_ble_eq_true rfl) (nin L0 (by decide +kernel)) (by decide) (CL_of L0 (by decide +kernel) (no6 (by decide +kernel))) (DNI_of L0 (by decide +kernel)) (Nat.le_of_ble_eq_true rfl) (Nat.le_of_ble_eq_true rfl) (fun G1 ht1 l1 a1 => ?_)
  have L1 : gL G1 = [183] := by rw [l1, L0]; rfl
  rw [mjz]
  refine p_putR (f := 1) (off := 1) (j := 183) (C := RX2) (T := TX2) (N := 5) (ty := tyX2) hX hp dX2_init_9 rfl (Nat.le_of_ble_eq_true rfl) rfl rfl w_260 inws_2 tyX2_ok nmX2 rfl (fun a => ⟨rfl, rfl⟩) rfl rfl ?_
  refine p_aload (j := 0) hX dX2_init_12 rfl ?_
  refine p_bipush hX dX2_init_13 bp_24 ?_
  refine p_arrI (j := 184) (N := 24) hX hp ht1 dX2_init_15 w_248 (by decide +kernel) (by decide +kernel) (Nat.le_of_ble_eq_true rfl) (nin L1 (by decide +kernel)) (by decide) (CL_of L1 (by decide +kernel) (no6 (by decide +kernel))) (DNI_of L1 (by decide +kernel)) (Nat.le_of_ble_eq_true rfl) (Nat.le_of_ble_eq_true rfl) (fun G2 ht2 l2 a2 => ?_)
  have L2 : gL G2 = [183, 184] := by rw [l2, L1]; rfl
  rw [mjz]
  refine p_putR (f := 2) (off := 2) (j := 184) (C := RX2) (T := TX2) (N := 5) (ty := tyX2) hX hp dX2_init_17 rfl (Nat.le_of_ble_eq_true rfl) rfl rfl w_263 inws_2 tyX2_ok nmX2 rfl (fun a => ⟨rfl, rfl⟩) rfl rfl ?_
  refine p_aload (j := 0) hX dX2_init_20 rfl ?_
  refine p_bipush hX dX2_init_21 bp_24 ?_
  refine p_arrI (j := 185) (N := 24) hX hp ht2 dX2_init_23 w_248 (by decide +kernel) (by decide +kernel) (Nat.le_of_ble_eq_true rfl) (nin L2 (by decide +kernel)) (by decide) (CL_of L2 (by decide +kernel) (no6 (by decide +kernel))) (DNI_of L2 (by decide +kernel)) (Nat.le_of_ble_eq_true rfl) (Nat.le_of_ble_eq_true rfl) (fun G3 ht3 l3 a3 => ?_)
  have L3 : gL G3 = [183, 184, 185] := by rw [l3, L2]; rfl
  rw [mjz]
  refine p_putR (f := 3) (off := 3) (j := 185) (C := RX2) (T := TX2) (N := 5) (ty := tyX2) hX hp dX2_init_25 rfl (Nat.le_of_ble_eq_true rfl) rfl rfl w_265 inws_2 tyX2_ok nmX2 rfl (fun a => ⟨rfl, rfl⟩) rfl rfl ?_
  refine p_aload (j := 0) hX dX2_init_28 rfl ?_
  refine p_bipush hX dX2_init_29 bp_24 ?_
  refine p_arrI (j := 186) (N := 24) hX hp ht3 dX2_init_31 w_248 (by decide +kernel) (by decide +kernel) (Nat.le_of_ble_eq_true rfl) (nin L3 (by decide +kernel)) (by decide) (CL_of L3 (by decide +kernel) (no6 (by decide +kernel))) (DNI_of L3 (by decide +kernel)) (Nat.le_of_ble_eq_true rfl) (Nat.le_of_ble_eq_true rfl) (fun G4 ht4 l4 a4 => ?_)
  have L4 : gL G4 = [183, 184, 185, 186] := by rw [l4, L3]; rfl
  rw [mjz]
  refine p_putR (f := 4) (off := 4) (j := 186) (C := RX2) (T := TX2) (N := 5) (ty := tyX2) hX hp dX2_init_33 rfl (Nat.le_of_ble_eq_true rfl) rfl rfl w_267 inws_2 tyX2_ok nmX2 rfl (fun a => ⟨rfl, rfl⟩) rfl rfl ?_
  refine p_abs hX ht4 (all_of (by decide +kernel)) (by decide +kernel) (nin L4 (by decide +kernel)) (DNI_of L4 (by decide +kernel)) (CL_of L4 (by decide +kernel) (no6 (by decide +kernel))) (by rw [L4]; decide +kernel) (fun G5 ht5 l5 gi a5 hY => ?_)
  have L5 : gL G5 = [183, 184, 185, 186, 182] := by rw [l5, L4]; rfl
  exact x_cret (X := (xA X, G5, X.2.2)) hY (ht5.trans (by rw [eG]; rfl)) gi hA L5 dX2_init_36 (Nat.le_of_ble_eq_true rfl) (Nat.le_of_ble_eq_true rfl) rfl
set_option maxRecDepth 100000 in
set_option maxHeartbeats 4000000 in
theorem ci_X5_187 {l : Launch} {G : Gx} (hl : l.stackTraces = false) : Ci l G mX5_init 1 6 336 187 5 [188, 189, 190, 191, 192, 193, 187] (fun _ _ => 0) := by
  refine Ci_of (own := RX5) (cc := cX5_init) (nL := 1) hl kX5_init rfl rfl rfl rfl (Nat.le_of_ble_eq_true rfl) rfl rfl (fun X h0 eG el hX hp hA => ?_)
  have ht0 : (gO G).2.2 = (xG X).2.2 := by rw [eG]
  have L0 : gL (gO G) = [] := rfl
  refine p_aload (j := 0) hX dX5_init_0 rfl ?_
  refine p_obj hX dX5_init_1 oi_X5 (Nat.le_of_ble_eq_true rfl) ?_
  refine p_aload (j := 0) hX dX5_init_4 rfl ?_
  refine p_bipush hX dX5_init_5 bp_16 ?_
  refine p_arrI (j := 188) (N := 16) hX hp ht0 dX5_init_7 w_248 (by decide +kernel) (by decide +kernel) (Nat.le_of_ble_eq_true rfl) (nin L0 (by decide +kernel)) (by decide) (CL_of L0 (by decide +kernel) (no6 (by decide +kernel))) (DNI_of L0 (by decide +kernel)) (Nat.le_of_ble_eq_true rfl) (Nat.le_of_ble_eq_true rfl) (fun G1 ht1 l1 a1 => ?_)
  have L1 : gL G1 = [188] := by rw [l1, L0]; rfl
  rw [mjz]
  refine p_putR (f := 2) (off := 1) (j := 188) (C := RX5) (T := TX5) (N := 8) (ty := tyX5) hX hp dX5_init_9 rfl (Nat.le_of_ble_eq_true rfl) rfl rfl w_295 inws_5 tyX5_ok nmX5 rfl (fun a => ⟨rfl, rfl⟩) rfl rfl ?_
  refine p_aload (j := 0) hX dX5_init_12 rfl ?_
  refine p_bipush hX dX5_init_13 bp_16 ?_
  refine p_arrI (j := 189) (N := 16) hX hp ht1 dX5_init_15 w_248 (by decide +kernel) (by decide +kernel) (Nat.le_of_ble_eq_true rfl) (nin L1 (by decide +kernel)) (by decide) (CL_of L1 (by decide +kernel) (no6 (by decide +kernel))) (DNI_of L1 (by decide +kernel)) (Nat.le_of_ble_eq_true rfl) (Nat.le_of_ble_eq_true rfl) (fun G2 ht2 l2 a2 => ?_)
  have L2 : gL G2 = [188, 189] := by rw [l2, L1]; rfl
  rw [mjz]
  refine p_putR (f := 3) (off := 2) (j := 189) (C := RX5) (T := TX5) (N := 8) (ty := tyX5) hX hp dX5_init_17 rfl (Nat.le_of_ble_eq_true rfl) rfl rfl w_299 inws_5 tyX5_ok nmX5 rfl (fun a => ⟨rfl, rfl⟩) rfl rfl ?_
  refine p_aload (j := 0) hX dX5_init_20 rfl ?_
  refine p_bipush hX dX5_init_21 bp_16 ?_
  refine p_arrI (j := 190) (N := 16) hX hp ht2 dX5_init_23 w_248 (by decide +kernel) (by decide +kernel) (Nat.le_of_ble_eq_true rfl) (nin L2 (by decide +kernel)) (by decide) (CL_of L2 (by decide +kernel) (no6 (by decide +kernel))) (DNI_of L2 (by decide +kernel)) (Nat.le_of_ble_eq_true rfl) (Nat.le_of_ble_eq_true rfl) (fun G3 ht3 l3 a3 => ?_)
  have L3 : gL G3 = [188, 189, 190] := by rw [l3, L2]; rfl
  rw [mjz]
  refine p_putR (f := 4) (off := 3) (j := 190) (C := RX5) (T := TX5) (N := 8) (ty := tyX5) hX hp dX5_init_25 rfl (Nat.le_of_ble_eq_true rfl) rfl rfl w_302 inws_5 tyX5_ok nmX5 rfl (fun a => ⟨rfl, rfl⟩) rfl rfl ?_
  refine p_aload (j := 0) hX dX5_init_28 rfl ?_
  refine p_bipush hX dX5_init_29 bp_96 ?_
  refine p_arrI (j := 191) (N := 96) hX hp ht3 dX5_init_31 w_248 (by decide +kernel) (by decide +kernel) (Nat.le_of_ble_eq_true rfl) (nin L3 (by decide +kernel)) (by decide) (CL_of L3 (by decide +kernel) (no6 (by decide +kernel))) (DNI_of L3 (by decide +kernel)) (Nat.le_of_ble_eq_true rfl) (Nat.le_of_ble_eq_true rfl) (fun G4 ht4 l4 a4 => ?_)
  have L4 : gL G4 = [188, 189, 190, 191] := by rw [l4, L3]; rfl
  rw [mjz]
  refine p_putR (f := 5) (off := 4) (j := 191) (C := RX5) (T := TX5) (N := 8) (ty := tyX5) hX hp dX5_init_33 rfl (Nat.le_of_ble_eq_true rfl) rfl rfl w_305 inws_5 tyX5_ok nmX5 rfl (fun a => ⟨rfl, rfl⟩) rfl rfl ?_
  refine p_aload (j := 0) hX dX5_init_36 rfl ?_
  refine p_bipush hX dX5_init_37 bp_96 ?_
  refine p_arrI (j := 192) (N := 96) hX hp ht4 dX5_init_39 w_248 (by decide +kernel) (by decide +kernel) (Nat.le_of_ble_eq_true rfl) (nin L4 (by decide +kernel)) (by decide) (CL_of L4 (by decide +kernel) (no6 (by decide +kernel))) (DNI_of L4 (by decide +kernel)) (Nat.le_of_ble_eq_true rfl) (Nat.le_of_ble_eq_true rfl) (fun G5 ht5 l5 a5 => ?_)
  have L5 : gL G5 = [188, 189, 190, 191, 192] := by rw [l5, L4]; rfl
  rw [mjz]
  refine p_putR (f := 6) (off := 5) (j := 192) (C := RX5) (T := TX5) (N := 8) (ty := tyX5) hX hp dX5_init_41 rfl (Nat.le_of_ble_eq_true rfl) rfl rfl w_307 inws_5 tyX5_ok nmX5 rfl (fun a => ⟨rfl, rfl⟩) rfl rfl ?_
  refine p_aload (j := 0) hX dX5_init_44 rfl ?_
  refine p_bipush hX dX5_init_45 bp_96 ?_
  refine p_arrI (j := 193) (N := 96) hX hp ht5 dX5_init_47 w_248 (by decide +kernel) (by decide +kernel) (Nat.le_of_ble_eq_true rfl) (nin L5 (by decide +kernel)) (by decide) (CL_of L5 (by decide +kernel) (no6 (by decide +kernel))) (DNI_of L5 (by decide +kernel)) (Nat.le_of_ble_eq_true rfl) (Nat.le_of_ble_eq_true rfl) (fun G6 ht6 l6 a6 => ?_)
  have L6 : gL G6 = [188, 189, 190, 191, 192, 193] := by rw [l6, L5]; rfl
  rw [mjz]
  refine p_putR (f := 7) (off := 6) (j := 193) (C := RX5) (T := TX5) (N := 8) (ty := tyX5) hX hp dX5_init_49 rfl (Nat.le_of_ble_eq_true rfl) rfl rfl w_309 inws_5 tyX5_ok nmX5 rfl (fun a => ⟨rfl, rfl⟩) rfl rfl ?_
  refine p_abs hX ht6 (all_of (by decide +kernel)) (by decide +kernel) (nin L6 (by decide +kernel)) (DNI_of L6 (by decide +kernel)) (CL_of L6 (by decide +kernel) (no6 (by decide +kernel))) (by rw [L6]; decide +kernel) (fun G7 ht7 l7 gi a7 hY => ?_)
  have L7 : gL G7 = [188, 189, 190, 191, 192, 193, 187] := by rw [l7, L6]; rfl
  exact x_cret (X := (xA X, G7, X.2.2)) hY (ht7.trans (by rw [eG]; rfl)) gi hA L7 dX5_init_52 (Nat.le_of_ble_eq_true rfl) (Nat.le_of_ble_eq_true rfl) rfl
set_option maxRecDepth 100000 in
set_option maxHeartbeats 4000000 in
theorem ci_X0_194 {l : Launch} {G : Gx} (hl : l.stackTraces = false) : Ci l G mX0_init 1 1 8 194 0 [195, 194] (fun _ _ => 0) := by
  refine Ci_of (own := RX0) (cc := cX0_init) (nL := 1) hl kX0_init rfl rfl rfl rfl (Nat.le_of_ble_eq_true rfl) rfl rfl (fun X h0 eG el hX hp hA => ?_)
  have ht0 : (gO G).2.2 = (xG X).2.2 := by rw [eG]
  have L0 : gL (gO G) = [] := rfl
  refine p_aload (j := 0) hX dX0_init_0 rfl ?_
  refine p_obj hX dX0_init_1 oi_X0 (Nat.le_of_ble_eq_true rfl) ?_
  refine p_aload (j := 0) hX dX0_init_4 rfl ?_
  refine p_bipush hX dX0_init_5 bp_8 ?_
  refine p_arrI (j := 195) (N := 8) hX hp ht0 dX0_init_7 w_248 (by decide +kernel) (by decide +kernel) (Nat.le_of_ble_eq_true rfl) (nin L0 (by decide +kernel)) (by decide) (CL_of L0 (by decide +kernel) (no6 (by decide +kernel))) (DNI_of L0 (by decide +kernel)) (Nat.le_of_ble_eq_true rfl) (Nat.le_of_ble_eq_true rfl) (fun G1 ht1 l1 a1 => ?_)
  have L1 : gL G1 = [195] := by rw [l1, L0]; rfl
  rw [mjz]
  refine p_putR (f := 1) (off := 1) (j := 195) (C := RX0) (T := TX0) (N := 2) (ty := tyX0) hX hp dX0_init_9 rfl (Nat.le_of_ble_eq_true rfl) rfl rfl w_341 inws_0 tyX0_ok nmX0 rfl (fun a => ⟨rfl, rfl⟩) rfl rfl ?_
  refine p_abs hX ht1 (all_of (by decide +kernel)) (by decide +kernel) (nin L1 (by decide +kernel)) (DNI_of L1 (by decide +kernel)) (CL_of L1 (by decide +kernel) (no6 (by decide +kernel))) (by rw [L1]; decide +kernel) (fun G2 ht2 l2 gi a2 hY => ?_)
  have L2 : gL G2 = [195, 194] := by rw [l2, L1]; rfl
  exact x_cret (X := (xA X, G2, X.2.2)) hY (ht2.trans (by rw [eG]; rfl)) gi hA L2 dX0_init_12 (Nat.le_of_ble_eq_true rfl) (Nat.le_of_ble_eq_true rfl) rfl
set_option maxRecDepth 100000 in
set_option maxHeartbeats 4000000 in
theorem ci_X1_178 {l : Launch} {G : Gx} (hl : l.stackTraces = false) {Mr178 : Mem} (er178 : f_X3_reset 179 (fun _ _ => 0) = some Mr178) : Ci l G mX1_init 4 17 469 178 1 [180, 181, 179, 183, 184, 185, 186, 182, 188, 189, 190, 191, 192, 193, 187, 195, 194, 178] Mr178 := by
  refine Ci_of (own := RX1) (cc := cX1_init) (nL := 1) hl kX1_init rfl rfl rfl rfl (Nat.le_of_ble_eq_true rfl) rfl rfl (fun X h0 eG el hX hp hA => ?_)
  have ht0 : (gO G).2.2 = (xG X).2.2 := by rw [eG]
  have L0 : gL (gO G) = [] := rfl
  refine p_aload (j := 0) hX dX1_init_0 rfl ?_
  refine p_obj hX dX1_init_1 oi_X1 (Nat.le_of_ble_eq_true rfl) ?_
  refine p_aload (j := 0) hX dX1_init_4 rfl ?_
  refine p_new (Ls := [180, 181, 179]) (Ms := (fun _ _ => 0)) hX hp ht0 dX1_init_5 dX1_init_8 dX1_init_9 nw_X1_11 (ci_X3_179 (gl hX)) rfl (Nat.le_of_ble_eq_true rfl) (Nat.le_of_ble_eq_true rfl) (Nat.le_of_ble_eq_true rfl) (dis_of L0 (by decide +kernel)) (by decide) (by decide) (CL_of L0 (by decide +kernel) (no6 (by decide +kernel))) (fun Gs e => CL_of e (by decide +kernel) (no6 (by decide +kernel))) (DNI_of L0 (by decide +kernel)) (fun G1 ht1 l1 a1 => ?_)
  have L1 : gL G1 = [180, 181, 179] := by rw [l1, L0]; rfl
  rw [mjz]
  refine p_putR (f := 0) (off := 1) (j := 179) (C := RX1) (T := TX1) (N := 4) (ty := tyX1) hX hp dX1_init_12 rfl (Nat.le_of_ble_eq_true rfl) rfl rfl w_364 inws_1 tyX1_ok nmX1 rfl (fun a => ⟨rfl, rfl⟩) rfl rfl ?_
  refine p_aload (j := 0) hX dX1_init_15 rfl ?_
  refine p_new (Ls := [183, 184, 185, 186, 182]) (Ms := (fun _ _ => 0)) hX hp ht1 dX1_init_16 dX1_init_19 dX1_init_20 nw_X1_20 (ci_X2_182 (gl hX)) rfl (Nat.le_of_ble_eq_true rfl) (Nat.le_of_ble_eq_true rfl) (Nat.le_of_ble_eq_true rfl) (dis_of L1 (by decide +kernel)) (by decide) (by decide) (CL_of L1 (by decide +kernel) (no6 (by decide +kernel))) (fun Gs e => CL_of e (by decide +kernel) (no6 (by decide +kernel))) (DNI_of L1 (by decide +kernel)) (fun G2 ht2 l2 a2 => ?_)
  have L2 : gL G2 = [180, 181, 179, 183, 184, 185, 186, 182] := by rw [l2, L1]; rfl
  rw [mjz]
  refine p_putR (f := 1) (off := 4) (j := 182) (C := RX1) (T := TX1) (N := 4) (ty := tyX1) hX hp dX1_init_23 rfl (Nat.le_of_ble_eq_true rfl) rfl rfl w_371 inws_1 tyX1_ok nmX1 rfl (fun a => ⟨rfl, rfl⟩) rfl rfl ?_
  refine p_aload (j := 0) hX dX1_init_26 rfl ?_
  refine p_new (Ls := [188, 189, 190, 191, 192, 193, 187]) (Ms := (fun _ _ => 0)) hX hp ht2 dX1_init_27 dX1_init_30 dX1_init_31 nw_X1_27 (ci_X5_187 (gl hX)) rfl (Nat.le_of_ble_eq_true rfl) (Nat.le_of_ble_eq_true rfl) (Nat.le_of_ble_eq_true rfl) (dis_of L2 (by decide +kernel)) (by decide) (by decide) (CL_of L2 (by decide +kernel) (no6 (by decide +kernel))) (fun Gs e => CL_of e (by decide +kernel) (no6 (by decide +kernel))) (DNI_of L2 (by decide +kernel)) (fun G3 ht3 l3 a3 => ?_)
  have L3 : gL G3 = [180, 181, 179, 183, 184, 185, 186, 182, 188, 189, 190, 191, 192, 193, 187] := by rw [l3, L2]; rfl
  rw [mjz]
  refine p_putR (f := 2) (off := 9) (j := 187) (C := RX1) (T := TX1) (N := 4) (ty := tyX1) hX hp dX1_init_34 rfl (Nat.le_of_ble_eq_true rfl) rfl rfl w_375 inws_1 tyX1_ok nmX1 rfl (fun a => ⟨rfl, rfl⟩) rfl rfl ?_
  refine p_aload (j := 0) hX dX1_init_37 rfl ?_
  refine p_new (Ls := [195, 194]) (Ms := (fun _ _ => 0)) hX hp ht3 dX1_init_38 dX1_init_41 dX1_init_42 nw_X1_34 (ci_X0_194 (gl hX)) rfl (Nat.le_of_ble_eq_true rfl) (Nat.le_of_ble_eq_true rfl) (Nat.le_of_ble_eq_true rfl) (dis_of L3 (by decide +kernel)) (by decide) (by decide) (CL_of L3 (by decide +kernel) (no6 (by decide +kernel))) (fun Gs e => CL_of e (by decide +kernel) (no6 (by decide +kernel))) (DNI_of L3 (by decide +kernel)) (fun G4 ht4 l4 a4 => ?_)
  have L4 : gL G4 = [180, 181, 179, 183, 184, 185, 186, 182, 188, 189, 190, 191, 192, 193, 187, 195, 194] := by rw [l4, L3]; rfl
  rw [mjz]
  refine p_putR (f := 3) (off := 16) (j := 194) (C := RX1) (T := TX1) (N := 4) (ty := tyX1) hX hp dX1_init_45 rfl (Nat.le_of_ble_eq_true rfl) rfl rfl w_380 inws_1 tyX1_ok nmX1 rfl (fun a => ⟨rfl, rfl⟩) rfl rfl ?_
  refine p_abs hX ht4 (all_of (by decide +kernel)) (by decide +kernel) (nin L4 (by decide +kernel)) (DNI_of L4 (by decide +kernel)) (CL_of L4 (by decide +kernel) (no6 (by decide +kernel))) (by rw [L4]; decide +kernel) (fun G5 ht5 l5 gi a5 hY => ?_)
  have L5 : gL G5 = [180, 181, 179, 183, 184, 185, 186, 182, 188, 189, 190, 191, 192, 193, 187, 195, 194, 178] := by rw [l5, L4]; rfl
  have e0 : (Value.ref h0) = vr (xG (xA X, G5, X.2.2)) 178 := by show _ = Value.ref (gad G5 178); rw [gi]
  rw [e0]
  refine x_aloadn hY dX1_init_48 rfl ?_
  have hi : at_ (xG (xA X, G5, X.2.2)) 178 11 0 := ⟨by show _ ∈ gL G5; rw [L5]; decide +kernel, by decide +kernel⟩
  refine x_getRj (j := 179) hY dX1_init_49 fl_X1_12 rfl hi rfl ?_
  refine x_callVv (t := 3) (As := []) (rest := []) hY dX1_init_52 (c_X3_reset (gk hY) (gl hY) (fo_1_0 (gk hY) hi) _ _ er178) kX3_reset vX3_reset w_352 (fo_1_0 (gk hY) hi) rfl rfl rfl rfl (Nat.le_of_ble_eq_true rfl) ⟨Nat.le_trans (Nat.le_of_ble_eq_true rfl) (Nat.le_of_eq hp.2.2.1.symm), Nat.le_trans (Nat.le_of_ble_eq_true rfl) (Nat.le_of_eq hp.2.2.2.symm)⟩ ?_
  exact x_cret (X := (xA X, G5, X.2.2)) hY (ht5.trans (by rw [eG]; rfl)) gi hA L5 dX1_init_55 (Nat.le_of_ble_eq_true rfl) (Nat.le_of_ble_eq_true rfl) rfl
set_option maxRecDepth 100000 in
set_option maxHeartbeats 4000000 in
theorem ci_X12_139 {l : Launch} {G : Gx} (hl : l.stackTraces = false) {Mr139 : Mem} (er139 : f_X12_begins mW = some Mr139) : Ci l G mX12_init 2 17 2836 139 11 [140, 141, 142, 143, 144, 145, 146, 147, 148, 149, 150, 151, 152, 153, 154, 155, 156, 139] Mr139 := by
  refine Ci_of (own := RX12) (cc := cX12_init) (nL := 1) hl kX12_init rfl rfl rfl rfl (Nat.le_of_ble_eq_true rfl) rfl rfl (fun X h0 eG el hX hp hA => ?_)
  have ht0 : (gO G).2.2 = (xG X).2.2 := by rw [eG]
  have L0 : gL (gO G) = [] := rfl
  refine p_aload (j := 0) hX dX12_init_0 rfl ?_
  refine p_obj hX dX12_init_1 oi_X12 (Nat.le_of_ble_eq_true rfl) ?_
  refine p_aload (j := 0) hX dX12_init_4 rfl ?_
  refine p_sipush hX dX12_init_5 sp_469 ?_
  refine p_arrI (j := 140) (N := 469) hX hp ht0 dX12_init_8 w_248 (by decide +kernel) (by decide +kernel) (Nat.le_of_ble_eq_true rfl) (nin L0 (by decide +kernel)) (by decide) (CL_of L0 (by decide +kernel) (no6 (by decide +kernel))) (DNI_of L0 (by decide +kernel)) (Nat.le_of_ble_eq_true rfl) (Nat.le_of_ble_eq_true rfl) (fun G1 ht1 l1 a1 => ?_)
  have L1 : gL G1 = [140] := by rw [l1, L0]; rfl
  rw [mjz]
  refine p_putR (f := 1) (off := 1) (j := 140) (C := RX12) (T := TX12) (N := 31) (ty := tyX12) hX hp dX12_init_10 rfl (Nat.le_of_ble_eq_true rfl) rfl rfl w_1633 inws_11 tyX12_ok nmX12 rfl (fun a => ⟨rfl, rfl⟩) rfl rfl ?_
  refine p_aload (j := 0) hX dX12_init_13 rfl ?_
  refine p_sipush hX dX12_init_14 sp_469 ?_
  refine p_arrI (j := 141) (N := 469) hX hp ht1 dX12_init_17 w_248 (by decide +kernel) (by decide +kernel) (Nat.le_of_ble_eq_true rfl) (nin L1 (by decide +kernel)) (by decide) (CL_of L1 (by decide +kernel) (no6 (by decide +kernel))) (DNI_of L1 (by decide +kernel)) (Nat.le_of_ble_eq_true rfl) (Nat.le_of_ble_eq_true rfl) (fun G2 ht2 l2 a2 => ?_)
  have L2 : gL G2 = [140, 141] := by rw [l2, L1]; rfl
  rw [mjz]
  refine p_putR (f := 2) (off := 2) (j := 141) (C := RX12) (T := TX12) (N := 31) (ty := tyX12) hX hp dX12_init_19 rfl (Nat.le_of_ble_eq_true rfl) rfl rfl w_1634 inws_11 tyX12_ok nmX12 rfl (fun a => ⟨rfl, rfl⟩) rfl rfl ?_
  refine p_aload (j := 0) hX dX12_init_22 rfl ?_
  refine p_sipush hX dX12_init_23 sp_938 ?_
  refine p_arrI (j := 142) (N := 938) hX hp ht2 dX12_init_26 w_248 (by decide +kernel) (by decide +kernel) (Nat.le_of_ble_eq_true rfl) (nin L2 (by decide +kernel)) (by decide) (CL_of L2 (by decide +kernel) (no6 (by decide +kernel))) (DNI_of L2 (by decide +kernel)) (Nat.le_of_ble_eq_true rfl) (Nat.le_of_ble_eq_true rfl) (fun G3 ht3 l3 a3 => ?_)
  have L3 : gL G3 = [140, 141, 142] := by rw [l3, L2]; rfl
  rw [mjz]
  refine p_putR (f := 3) (off := 3) (j := 142) (C := RX12) (T := TX12) (N := 31) (ty := tyX12) hX hp dX12_init_28 rfl (Nat.le_of_ble_eq_true rfl) rfl rfl w_1635 inws_11 tyX12_ok nmX12 rfl (fun a => ⟨rfl, rfl⟩) rfl rfl ?_
  refine p_aload (j := 0) hX dX12_init_31 rfl ?_
  refine p_iconst hX dX12_init_32 ?_
  refine p_arrZ (j := 143) (N := 2) hX hp ht3 dX12_init_33 w_1726 (by decide +kernel) (by decide +kernel) (Nat.le_of_ble_eq_true rfl) (nin L3 (by decide +kernel)) (by decide) (CL_of L3 (by decide +kernel) (no6 (by decide +kernel))) (DNI_of L3 (by decide +kernel)) (Nat.le_of_ble_eq_true rfl) (Nat.le_of_ble_eq_true rfl) (fun G4 ht4 l4 a4 => ?_)
  have L4 : gL G4 = [140, 141, 142, 143] := by rw [l4, L3]; rfl
  rw [mjz]
  refine p_putR (f := 4) (off := 4) (j := 143) (C := RX12) (T := TX12) (N := 31) (ty := tyX12) hX hp dX12_init_35 rfl (Nat.le_of_ble_eq_true rfl) rfl rfl w_1636 inws_11 tyX12_ok nmX12 rfl (fun a => ⟨rfl, rfl⟩) rfl rfl ?_
  refine p_aload (j := 0) hX dX12_init_38 rfl ?_
  refine p_bipush hX dX12_init_39 bp_126 ?_
  refine p_arrZ (j := 144) (N := 126) hX hp ht4 dX12_init_41 w_1726 (by decide +kernel) (by decide +kernel) (Nat.le_of_ble_eq_true rfl) (nin L4 (by decide +kernel)) (by decide) (CL_of L4 (by decide +kernel) (no6 (by decide +kernel))) (DNI_of L4 (by decide +kernel)) (Nat.le_of_ble_eq_true rfl) (Nat.le_of_ble_eq_true rfl) (fun G5 ht5 l5 a5 => ?_)
  have L5 : gL G5 = [140, 141, 142, 143, 144] := by rw [l5, L4]; rfl
  rw [mjz]
  refine p_putR (f := 5) (off := 5) (j := 144) (C := RX12) (T := TX12) (N := 31) (ty := tyX12) hX hp dX12_init_43 rfl (Nat.le_of_ble_eq_true rfl) rfl rfl w_1637 inws_11 tyX12_ok nmX12 rfl (fun a => ⟨rfl, rfl⟩) rfl rfl ?_
  refine p_aload (j := 0) hX dX12_init_46 rfl ?_
  refine p_bipush hX dX12_init_47 bp_24 ?_
  refine p_arrZ (j := 145) (N := 24) hX hp ht5 dX12_init_49 w_1726 (by decide +kernel) (by decide +kernel) (Nat.le_of_ble_eq_true rfl) (nin L5 (by decide +kernel)) (by decide) (CL_of L5 (by decide +kernel) (no6 (by decide +kernel))) (DNI_of L5 (by decide +kernel)) (Nat.le_of_ble_eq_true rfl) (Nat.le_of_ble_eq_true rfl) (fun G6 ht6 l6 a6 => ?_)
  have L6 : gL G6 = [140, 141, 142, 143, 144, 145] := by rw [l6, L5]; rfl
  rw [mjz]
  refine p_putR (f := 6) (off := 6) (j := 145) (C := RX12) (T := TX12) (N := 31) (ty := tyX12) hX hp dX12_init_51 rfl (Nat.le_of_ble_eq_true rfl) rfl rfl w_1638 inws_11 tyX12_ok nmX12 rfl (fun a => ⟨rfl, rfl⟩) rfl rfl ?_
  refine p_aload (j := 0) hX dX12_init_54 rfl ?_
  refine p_bipush hX dX12_init_55 bp_6 ?_
  refine p_arrI (j := 146) (N := 6) hX hp ht6 dX12_init_57 w_248 (by decide +kernel) (by decide +kernel) (Nat.le_of_ble_eq_true rfl) (nin L6 (by decide +kernel)) (by decide) (CL_of L6 (by decide +kernel) (no6 (by decide +kernel))) (DNI_of L6 (by decide +kernel)) (Nat.le_of_ble_eq_true rfl) (Nat.le_of_ble_eq_true rfl) (fun G7 ht7 l7 a7 => ?_)
  have L7 : gL G7 = [140, 141, 142, 143, 144, 145, 146] := by rw [l7, L6]; rfl
  rw [mjz]
  refine p_putR (f := 7) (off := 7) (j := 146) (C := RX12) (T := TX12) (N := 31) (ty := tyX12) hX hp dX12_init_59 rfl (Nat.le_of_ble_eq_true rfl) rfl rfl w_1639 inws_11 tyX12_ok nmX12 rfl (fun a => ⟨rfl, rfl⟩) rfl rfl ?_
  refine p_aload (j := 0) hX dX12_init_62 rfl ?_
  refine p_bipush hX dX12_init_63 bp_24 ?_
  refine p_arrI (j := 147) (N := 24) hX hp ht7 dX12_init_65 w_248 (by decide +kernel) (by decide +kernel) (Nat.le_of_ble_eq_true rfl) (nin L7 (by decide +kernel)) (by decide) (CL_of L7 (by decide +kernel) (no6 (by decide +kernel))) (DNI_of L7 (by decide +kernel)) (Nat.le_of_ble_eq_true rfl) (Nat.le_of_ble_eq_true rfl) (fun G8 ht8 l8 a8 => ?_)
  have L8 : gL G8 = [140, 141, 142, 143, 144, 145, 146, 147] := by rw [l8, L7]; rfl
  rw [mjz]
  refine p_putR (f := 13) (off := 8) (j := 147) (C := RX12) (T := TX12) (N := 31) (ty := tyX12) hX hp dX12_init_67 rfl (Nat.le_of_ble_eq_true rfl) rfl rfl w_1645 inws_11 tyX12_ok nmX12 rfl (fun a => ⟨rfl, rfl⟩) rfl rfl ?_
  refine p_aload (j := 0) hX dX12_init_70 rfl ?_
  refine p_bipush hX dX12_init_71 bp_24 ?_
  refine p_arrI (j := 148) (N := 24) hX hp ht8 dX12_init_73 w_248 (by decide +kernel) (by decide +kernel) (Nat.le_of_ble_eq_true rfl) (nin L8 (by decide +kernel)) (by decide) (CL_of L8 (by decide +kernel) (no6 (by decide +kernel))) (DNI_of L8 (by decide +kernel)) (Nat.le_of_ble_eq_true rfl) (Nat.le_of_ble_eq_true rfl) (fun G9 ht9 l9 a9 => ?_)
  have L9 : gL G9 = [140, 141, 142, 143, 144, 145, 146, 147, 148] := by rw [l9, L8]; rfl
  rw [mjz]
  refine p_putR (f := 15) (off := 9) (j := 148) (C := RX12) (T := TX12) (N := 31) (ty := tyX12) hX hp dX12_init_75 rfl (Nat.le_of_ble_eq_true rfl) rfl rfl w_1647 inws_11 tyX12_ok nmX12 rfl (fun a => ⟨rfl, rfl⟩) rfl rfl ?_
  refine p_aload (j := 0) hX dX12_init_78 rfl ?_
  refine p_bipush hX dX12_init_79 bp_8 ?_
  refine p_arrI (j := 149) (N := 8) hX hp ht9 dX12_init_81 w_248 (by decide +kernel) (by decide +kernel) (Nat.le_of_ble_eq_true rfl) (nin L9 (by decide +kernel)) (by decide) (CL_of L9 (by decide +kernel) (no6 (by decide +kernel))) (DNI_of L9 (by decide +kernel)) (Nat.le_of_ble_eq_true rfl) (Nat.le_of_ble_eq_true rfl) (fun G10 ht10 l10 a10 => ?_)
  have L10 : gL G10 = [140, 141, 142, 143, 144, 145, 146, 147, 148, 149] := by rw [l10, L9]; rfl
  rw [mjz]
  refine p_putR (f := 16) (off := 10) (j := 149) (C := RX12) (T := TX12) (N := 31) (ty := tyX12) hX hp dX12_init_83 rfl (Nat.le_of_ble_eq_true rfl) rfl rfl w_1648 inws_11 tyX12_ok nmX12 rfl (fun a => ⟨rfl, rfl⟩) rfl rfl ?_
  refine p_aload (j := 0) hX dX12_init_86 rfl ?_
  refine p_bipush hX dX12_init_87 bp_24 ?_
  refine p_arrI (j := 150) (N := 24) hX hp ht10 dX12_init_89 w_248 (by decide +kernel) (by decide +kernel) (Nat.le_of_ble_eq_true rfl) (nin L10 (by decide +kernel)) (by decide) (CL_of L10 (by decide +kernel) (no6 (by decide +kernel))) (DNI_of L10 (by decide +kernel)) (Nat.le_of_ble_eq_true rfl) (Nat.le_of_ble_eq_true rfl) (fun G11 ht11 l11 a11 => ?_)
  have L11 : gL G11 = [140, 141, 142, 143, 144, 145, 146, 147, 148, 149, 150] := by rw [l11, L10]; rfl
  rw [mjz]
  refine p_putR (f := 17) (off := 11) (j := 150) (C := RX12) (T := TX12) (N := 31) (ty := tyX12) hX hp dX12_init_91 rfl (Nat.le_of_ble_eq_true rfl) rfl rfl w_1649 inws_11 tyX12_ok nmX12 rfl (fun a => ⟨rfl, rfl⟩) rfl rfl ?_
  refine p_aload (j := 0) hX dX12_init_94 rfl ?_
  refine p_bipush hX dX12_init_95 bp_24 ?_
  refine p_arrI (j := 151) (N := 24) hX hp ht11 dX12_init_97 w_248 (by decide +kernel) (by decide +kernel) (Nat.le_of_ble_eq_true rfl) (nin L11 (by decide +kernel)) (by decide) (CL_of L11 (by decide +kernel) (no6 (by decide +kernel))) (DNI_of L11 (by decide +kernel)) (Nat.le_of_ble_eq_true rfl) (Nat.le_of_ble_eq_true rfl) (fun G12 ht12 l12 a12 => ?_)
  have L12 : gL G12 = [140, 141, 142, 143, 144, 145, 146, 147, 148, 149, 150, 151] := by rw [l12, L11]; rfl
  rw [mjz]
  refine p_putR (f := 18) (off := 12) (j := 151) (C := RX12) (T := TX12) (N := 31) (ty := tyX12) hX hp dX12_init_99 rfl (Nat.le_of_ble_eq_true rfl) rfl rfl w_1650 inws_11 tyX12_ok nmX12 rfl (fun a => ⟨rfl, rfl⟩) rfl rfl ?_
  refine p_aload (j := 0) hX dX12_init_102 rfl ?_
  refine p_bipush hX dX12_init_103 bp_8 ?_
  refine p_arrI (j := 152) (N := 8) hX hp ht12 dX12_init_105 w_248 (by decide +kernel) (by decide +kernel) (Nat.le_of_ble_eq_true rfl) (nin L12 (by decide +kernel)) (by decide) (CL_of L12 (by decide +kernel) (no6 (by decide +kernel))) (DNI_of L12 (by decide +kernel)) (Nat.le_of_ble_eq_true rfl) (Nat.le_of_ble_eq_true rfl) (fun G13 ht13 l13 a13 => ?_)
  have L13 : gL G13 = [140, 141, 142, 143, 144, 145, 146, 147, 148, 149, 150, 151, 152] := by rw [l13, L12]; rfl
  rw [mjz]
  refine p_putR (f := 19) (off := 13) (j := 152) (C := RX12) (T := TX12) (N := 31) (ty := tyX12) hX hp dX12_init_107 rfl (Nat.le_of_ble_eq_true rfl) rfl rfl w_1651 inws_11 tyX12_ok nmX12 rfl (fun a => ⟨rfl, rfl⟩) rfl rfl ?_
  refine p_aload (j := 0) hX dX12_init_110 rfl ?_
  refine p_bipush hX dX12_init_111 bp_8 ?_
  refine p_arrI (j := 153) (N := 8) hX hp ht13 dX12_init_113 w_248 (by decide +kernel) (by decide +kernel) (Nat.le_of_ble_eq_true rfl) (nin L13 (by decide +kernel)) (by decide) (CL_of L13 (by decide +kernel) (no6 (by decide +kernel))) (DNI_of L13 (by decide +kernel)) (Nat.le_of_ble_eq_true rfl) (Nat.le_of_ble_eq_true rfl) (fun G14 ht14 l14 a14 => ?_)
  have L14 : gL G14 = [140, 141, 142, 143, 144, 145, 146, 147, 148, 149, 150, 151, 152, 153] := by rw [l14, L13]; rfl
  rw [mjz]
  refine p_putR (f := 20) (off := 14) (j := 153) (C := RX12) (T := TX12) (N := 31) (ty := tyX12) hX hp dX12_init_115 rfl (Nat.le_of_ble_eq_true rfl) rfl rfl w_1652 inws_11 tyX12_ok nmX12 rfl (fun a => ⟨rfl, rfl⟩) rfl rfl ?_
  refine p_aload (j := 0) hX dX12_init_118 rfl ?_
  refine p_bipush hX dX12_init_119 bp_8 ?_
  refine p_arrI (j := 154) (N := 8) hX hp ht14 dX12_init_121 w_248 (by decide +kernel) (by decide +kernel) (Nat.le_of_ble_eq_true rfl) (nin L14 (by decide +kernel)) (by decide) (CL_of L14 (by decide +kernel) (no6 (by decide +kernel))) (DNI_of L14 (by decide +kernel)) (Nat.le_of_ble_eq_true rfl) (Nat.le_of_ble_eq_true rfl) (fun G15 ht15 l15 a15 => ?_)
  have L15 : gL G15 = [140, 141, 142, 143, 144, 145, 146, 147, 148, 149, 150, 151, 152, 153, 154] := by rw [l15, L14]; rfl
  rw [mjz]
  refine p_putR (f := 21) (off := 15) (j := 154) (C := RX12) (T := TX12) (N := 31) (ty := tyX12) hX hp dX12_init_123 rfl (Nat.le_of_ble_eq_true rfl) rfl rfl w_1653 inws_11 tyX12_ok nmX12 rfl (fun a => ⟨rfl, rfl⟩) rfl rfl ?_
  refine p_aload (j := 0) hX dX12_init_126 rfl ?_
  refine p_sipush hX dX12_init_127 sp_600 ?_
  refine p_arrB (j := 155) (N := 600) hX hp ht15 dX12_init_130 w_430 (by decide +kernel) (by decide +kernel) (Nat.le_of_ble_eq_true rfl) (nin L15 (by decide +kernel)) (by decide) (CL_of L15 (by decide +kernel) (no6 (by decide +kernel))) (DNI_of L15 (by decide +kernel)) (Nat.le_of_ble_eq_true rfl) (Nat.le_of_ble_eq_true rfl) (fun G16 ht16 l16 a16 => ?_)
  have L16 : gL G16 = [140, 141, 142, 143, 144, 145, 146, 147, 148, 149, 150, 151, 152, 153, 154, 155] := by rw [l16, L15]; rfl
  rw [mjz]
  refine p_putR (f := 22) (off := 16) (j := 155) (C := RX12) (T := TX12) (N := 31) (ty := tyX12) hX hp dX12_init_132 rfl (Nat.le_of_ble_eq_true rfl) rfl rfl w_1654 inws_11 tyX12_ok nmX12 rfl (fun a => ⟨rfl, rfl⟩) rfl rfl ?_
  refine p_aload (j := 0) hX dX12_init_135 rfl ?_
  refine p_iconst hX dX12_init_136 ?_
  refine p_putI (f := 29) (C := RX12) (T := TX12) (N := 31) (ty := tyX12) hX dX12_init_137 rfl (Nat.le_of_ble_eq_true rfl) rfl w_1661 inws_11 tyX12_ok nmX12 rfl rfl rfl (nin L16 (by decide +kernel)) ?_
  refine p_aload (j := 0) hX dX12_init_140 rfl ?_
  refine p_bipush hX dX12_init_141 bp_74 ?_
  refine p_arrB (j := 156) (N := 74) hX hp ht16 dX12_init_143 w_430 (by decide +kernel) (by decide +kernel) (Nat.le_of_ble_eq_true rfl) (nin L16 (by decide +kernel)) (by decide) (CL_of L16 (by decide +kernel) (no6 (by decide +kernel))) (DNI_of L16 (by decide +kernel)) (Nat.le_of_ble_eq_true rfl) (Nat.le_of_ble_eq_true rfl) (fun G17 ht17 l17 a17 => ?_)
  have L17 : gL G17 = [140, 141, 142, 143, 144, 145, 146, 147, 148, 149, 150, 151, 152, 153, 154, 155, 156] := by rw [l17, L16]; rfl
  refine p_dup hX dX12_init_145 rfl ?_
  refine p_iconst hX dX12_init_146 ?_
  refine p_bipush hX dX12_init_147 bp_104 ?_
  refine p_bast (a := 156) (N := 74) (j := 0) hX ht17 dX12_init_149 (by rw [L17]; decide +kernel) ⟨by rw [L17]; decide +kernel, by decide +kernel⟩ (by decide) inc_0_74 ixc_0 ?_
  refine p_dup hX dX12_init_150 rfl ?_
  refine p_iconst hX dX12_init_151 ?_
  refine p_bipush hX dX12_init_152 bp_97 ?_
  refine p_bast (a := 156) (N := 74) (j := 1) hX ht17 dX12_init_154 (by rw [L17]; decide +kernel) ⟨by rw [L17]; decide +kernel, by decide +kernel⟩ (by decide) inc_1_74 ixc_1 ?_
  refine p_dup hX dX12_init_155 rfl ?_
  refine p_iconst hX dX12_init_156 ?_
  refine p_bipush hX dX12_init_157 bp_108 ?_
  refine p_bast (a := 156) (N := 74) (j := 2) hX ht17 dX12_init_159 (by rw [L17]; decide +kernel) ⟨by rw [L17]; decide +kernel, by decide +kernel⟩ (by decide) inc_2_74 ixc_2 ?_
  refine p_dup hX dX12_init_160 rfl ?_
  refine p_iconst hX dX12_init_161 ?_
  refine p_bipush hX dX12_init_162 bp_108 ?_
  refine p_bast (a := 156) (N := 74) (j := 3) hX ht17 dX12_init_164 (by rw [L17]; decide +kernel) ⟨by rw [L17]; decide +kernel, by decide +kernel⟩ (by decide) inc_3_74 ixc_3 ?_
  refine p_dup hX dX12_init_165 rfl ?_
  refine p_iconst hX dX12_init_166 ?_
  refine p_bipush hX dX12_init_167 bp_32 ?_
  refine p_bast (a := 156) (N := 74) (j := 4) hX ht17 dX12_init_169 (by rw [L17]; decide +kernel) ⟨by rw [L17]; decide +kernel, by decide +kernel⟩ (by decide) inc_4_74 ixc_4 ?_
  refine p_dup hX dX12_init_170 rfl ?_
  refine p_iconst hX dX12_init_171 ?_
  refine p_bipush hX dX12_init_172 bp_105 ?_
  refine p_bast (a := 156) (N := 74) (j := 5) hX ht17 dX12_init_174 (by rw [L17]; decide +kernel) ⟨by rw [L17]; decide +kernel, by decide +kernel⟩ (by decide) inc_5_74 ixc_5 ?_
  refine p_dup hX dX12_init_175 rfl ?_
  refine p_bipush hX dX12_init_176 bp_6 ?_
  refine p_bipush hX dX12_init_178 bp_116 ?_
  refine p_bast (a := 156) (N := 74) (j := 6) hX ht17 dX12_init_180 (by rw [L17]; decide +kernel) ⟨by rw [L17]; decide +kernel, by decide +kernel⟩ (by decide) inc_6_74 ixc_6 ?_
  refine p_dup hX dX12_init_181 rfl ?_
  refine p_bipush hX dX12_init_182 bp_7 ?_
  refine p_bipush hX dX12_init_184 bp_101 ?_
  refine p_bast (a := 156) (N := 74) (j := 7) hX ht17 dX12_init_186 (by rw [L17]; decide +kernel) ⟨by rw [L17]; decide +kernel, by decide +kernel⟩ (by decide) inc_7_74 ixc_7 ?_
  refine p_dup hX dX12_init_187 rfl ?_
  refine p_bipush hX dX12_init_188 bp_8 ?_
  refine p_bipush hX dX12_init_190 bp_109 ?_
  refine p_bast (a := 156) (N := 74) (j := 8) hX ht17 dX12_init_192 (by rw [L17]; decide +kernel) ⟨by rw [L17]; decide +kernel, by decide +kernel⟩ (by decide) inc_8_74 ixc_8 ?_
  refine p_dup hX dX12_init_193 rfl ?_
  refine p_bipush hX dX12_init_194 bp_9 ?_
  refine p_bipush hX dX12_init_196 bp_32 ?_
  refine p_bast (a := 156) (N := 74) (j := 9) hX ht17 dX12_init_198 (by rw [L17]; decide +kernel) ⟨by rw [L17]; decide +kernel, by decide +kernel⟩ (by decide) inc_9_74 ixc_9 ?_
  refine p_dup hX dX12_init_199 rfl ?_
  refine p_bipush hX dX12_init_200 bp_10 ?_
  refine p_bipush hX dX12_init_202 bp_111 ?_
  refine p_bast (a := 156) (N := 74) (j := 10) hX ht17 dX12_init_204 (by rw [L17]; decide +kernel) ⟨by rw [L17]; decide +kernel, by decide +kernel⟩ (by decide) inc_10_74 ixc_10 ?_
  refine p_dup hX dX12_init_205 rfl ?_
  refine p_bipush hX dX12_init_206 bp_11 ?_
  refine p_bipush hX dX12_init_208 bp_114 ?_
  refine p_bast (a := 156) (N := 74) (j := 11) hX ht17 dX12_init_210 (by rw [L17]; decide +kernel) ⟨by rw [L17]; decide +kernel, by decide +kernel⟩ (by decide) inc_11_74 ixc_11 ?_
  refine p_dup hX dX12_init_211 rfl ?_
  refine p_bipush hX dX12_init_212 bp_12 ?_
  refine p_bipush hX dX12_init_214 bp_100 ?_
  refine p_bast (a := 156) (N := 74) (j := 12) hX ht17 dX12_init_216 (by rw [L17]; decide +kernel) ⟨by rw [L17]; decide +kernel, by decide +kernel⟩ (by decide) inc_12_74 ixc_12 ?_
  refine p_dup hX dX12_init_217 rfl ?_
  refine p_bipush hX dX12_init_218 bp_13 ?_
  refine p_bipush hX dX12_init_220 bp_101 ?_
  refine p_bast (a := 156) (N := 74) (j := 13) hX ht17 dX12_init_222 (by rw [L17]; decide +kernel) ⟨by rw [L17]; decide +kernel, by decide +kernel⟩ (by decide) inc_13_74 ixc_13 ?_
  refine p_dup hX dX12_init_223 rfl ?_
  refine p_bipush hX dX12_init_224 bp_14 ?_
  refine p_bipush hX dX12_init_226 bp_114 ?_
  refine p_bast (a := 156) (N := 74) (j := 14) hX ht17 dX12_init_228 (by rw [L17]; decide +kernel) ⟨by rw [L17]; decide +kernel, by decide +kernel⟩ (by decide) inc_14_74 ixc_14 ?_
  refine p_dup hX dX12_init_229 rfl ?_
  refine p_bipush hX dX12_init_230 bp_15 ?_
  refine p_bipush hX dX12_init_232 bp_32 ?_
  refine p_bast (a := 156) (N := 74) (j := 15) hX ht17 dX12_init_234 (by rw [L17]; decide +kernel) ⟨by rw [L17]; decide +kernel, by decide +kernel⟩ (by decide) inc_15_74 ixc_15 ?_
  refine p_dup hX dX12_init_235 rfl ?_
  refine p_bipush hX dX12_init_236 bp_16 ?_
  refine p_bipush hX dX12_init_238 bp_108 ?_
  refine p_bast (a := 156) (N := 74) (j := 16) hX ht17 dX12_init_240 (by rw [L17]; decide +kernel) ⟨by rw [L17]; decide +kernel, by decide +kernel⟩ (by decide) inc_16_74 ixc_16 ?_
  refine p_dup hX dX12_init_241 rfl ?_
  refine p_bipush hX dX12_init_242 bp_17 ?_
  refine p_bipush hX dX12_init_244 bp_105 ?_
  refine p_bast (a := 156) (N := 74) (j := 17) hX ht17 dX12_init_246 (by rw [L17]; decide +kernel) ⟨by rw [L17]; decide +kernel, by decide +kernel⟩ (by decide) inc_17_74 ixc_17 ?_
  refine p_dup hX dX12_init_247 rfl ?_
  refine p_bipush hX dX12_init_248 bp_18 ?_
  refine p_bipush hX dX12_init_250 bp_110 ?_
  refine p_bast (a := 156) (N := 74) (j := 18) hX ht17 dX12_init_252 (by rw [L17]; decide +kernel) ⟨by rw [L17]; decide +kernel, by decide +kernel⟩ (by decide) inc_18_74 ixc_18 ?_
  refine p_dup hX dX12_init_253 rfl ?_
  refine p_bipush hX dX12_init_254 bp_19 ?_
  refine p_bipush hX dX12_init_256 bp_101 ?_
  refine p_bast (a := 156) (N := 74) (j := 19) hX ht17 dX12_init_258 (by rw [L17]; decide +kernel) ⟨by rw [L17]; decide +kernel, by decide +kernel⟩ (by decide) inc_19_74 ixc_19 ?_
  refine p_dup hX dX12_init_259 rfl ?_
  refine p_bipush hX dX12_init_260 bp_20 ?_
  refine p_bipush hX dX12_init_262 bp_32 ?_
  refine p_bast (a := 156) (N := 74) (j := 20) hX ht17 dX12_init_264 (by rw [L17]; decide +kernel) ⟨by rw [L17]; decide +kernel, by decide +kernel⟩ (by decide) inc_20_74 ixc_20 ?_
  refine p_dup hX dX12_init_265 rfl ?_
  refine p_bipush hX dX12_init_266 bp_21 ?_
  refine p_bipush hX dX12_init_268 bp_122 ?_
  refine p_bast (a := 156) (N := 74) (j := 21) hX ht17 dX12_init_270 (by rw [L17]; decide +kernel) ⟨by rw [L17]; decide +kernel, by decide +kernel⟩ (by decide) inc_21_74 ixc_21 ?_
  refine p_dup hX dX12_init_271 rfl ?_
  refine p_bipush hX dX12_init_272 bp_22 ?_
  refine p_bipush hX dX12_init_274 bp_111 ?_
  refine p_bast (a := 156) (N := 74) (j := 22) hX ht17 dX12_init_276 (by rw [L17]; decide +kernel) ⟨by rw [L17]; decide +kernel, by decide +kernel⟩ (by decide) inc_22_74 ixc_22 ?_
  refine p_dup hX dX12_init_277 rfl ?_
  refine p_bipush hX dX12_init_278 bp_23 ?_
  refine p_bipush hX dX12_init_280 bp_110 ?_
  refine p_bast (a := 156) (N := 74) (j := 23) hX ht17 dX12_init_282 (by rw [L17]; decide +kernel) ⟨by rw [L17]; decide +kernel, by decide +kernel⟩ (by decide) inc_23_74 ixc_23 ?_
  refine p_dup hX dX12_init_283 rfl ?_
  refine p_bipush hX dX12_init_284 bp_24 ?_
  refine p_bipush hX dX12_init_286 bp_101 ?_
  refine p_bast (a := 156) (N := 74) (j := 24) hX ht17 dX12_init_288 (by rw [L17]; decide +kernel) ⟨by rw [L17]; decide +kernel, by decide +kernel⟩ (by decide) inc_24_74 ixc_24 ?_
  refine p_dup hX dX12_init_289 rfl ?_
  refine p_bipush hX dX12_init_290 bp_25 ?_
  refine p_bipush hX dX12_init_292 bp_115 ?_
  refine p_bast (a := 156) (N := 74) (j := 25) hX ht17 dX12_init_294 (by rw [L17]; decide +kernel) ⟨by rw [L17]; decide +kernel, by decide +kernel⟩ (by decide) inc_25_74 ixc_25 ?_
  refine p_dup hX dX12_init_295 rfl ?_
  refine p_bipush hX dX12_init_296 bp_26 ?_
  refine p_bipush hX dX12_init_298 bp_32 ?_
  refine p_bast (a := 156) (N := 74) (j := 26) hX ht17 dX12_init_300 (by rw [L17]; decide +kernel) ⟨by rw [L17]; decide +kernel, by decide +kernel⟩ (by decide) inc_26_74 ixc_26 ?_
  refine p_dup hX dX12_init_301 rfl ?_
  refine p_bipush hX dX12_init_302 bp_27 ?_
  refine p_bipush hX dX12_init_304 bp_98 ?_
  refine p_bast (a := 156) (N := 74) (j := 27) hX ht17 dX12_init_306 (by rw [L17]; decide +kernel) ⟨by rw [L17]; decide +kernel, by decide +kernel⟩ (by decide) inc_27_74 ixc_27 ?_
  refine p_dup hX dX12_init_307 rfl ?_
  refine p_bipush hX dX12_init_308 bp_28 ?_
  refine p_bipush hX dX12_init_310 bp_117 ?_
  refine p_bast (a := 156) (N := 74) (j := 28) hX ht17 dX12_init_312 (by rw [L17]; decide +kernel) ⟨by rw [L17]; decide +kernel, by decide +kernel⟩ (by decide) inc_28_74 ixc_28 ?_
  refine p_dup hX dX12_init_313 rfl ?_
  refine p_bipush hX dX12_init_314 bp_29 ?_
  refine p_bipush hX dX12_init_316 bp_102 ?_
  refine p_bast (a := 156) (N := 74) (j := 29) hX ht17 dX12_init_318 (by rw [L17]; decide +kernel) ⟨by rw [L17]; decide +kernel, by decide +kernel⟩ (by decide) inc_29_74 ixc_29 ?_
  refine p_dup hX dX12_init_319 rfl ?_
  refine p_bipush hX dX12_init_320 bp_30 ?_
  refine p_bipush hX dX12_init_322 bp_102 ?_
  refine p_bast (a := 156) (N := 74) (j := 30) hX ht17 dX12_init_324 (by rw [L17]; decide +kernel) ⟨by rw [L17]; decide +kernel, by decide +kernel⟩ (by decide) inc_30_74 ixc_30 ?_
  refine p_dup hX dX12_init_325 rfl ?_
  refine p_bipush hX dX12_init_326 bp_31 ?_
  refine p_bipush hX dX12_init_328 bp_101 ?_
  refine p_bast (a := 156) (N := 74) (j := 31) hX ht17 dX12_init_330 (by rw [L17]; decide +kernel) ⟨by rw [L17]; decide +kernel, by decide +kernel⟩ (by decide) inc_31_74 ixc_31 ?_
  refine p_dup hX dX12_init_331 rfl ?_
  refine p_bipush hX dX12_init_332 bp_32 ?_
  refine p_bipush hX dX12_init_334 bp_114 ?_
  refine p_bast (a := 156) (N := 74) (j := 32) hX ht17 dX12_init_336 (by rw [L17]; decide +kernel) ⟨by rw [L17]; decide +kernel, by decide +kernel⟩ (by decide) inc_32_74 ixc_32 ?_
  refine p_dup hX dX12_init_337 rfl ?_
  refine p_bipush hX dX12_init_338 bp_33 ?_
  refine p_bipush hX dX12_init_340 bp_32 ?_
  refine p_bast (a := 156) (N := 74) (j := 33) hX ht17 dX12_init_342 (by rw [L17]; decide +kernel) ⟨by rw [L17]; decide +kernel, by decide +kernel⟩ (by decide) inc_33_74 ixc_33 ?_
  refine p_dup hX dX12_init_343 rfl ?_
  refine p_bipush hX dX12_init_344 bp_34 ?_
  refine p_bipush hX dX12_init_346 bp_116 ?_
  refine p_bast (a := 156) (N := 74) (j := 34) hX ht17 dX12_init_348 (by rw [L17]; decide +kernel) ⟨by rw [L17]; decide +kernel, by decide +kernel⟩ (by decide) inc_34_74 ixc_34 ?_
  refine p_dup hX dX12_init_349 rfl ?_
  refine p_bipush hX dX12_init_350 bp_35 ?_
  refine p_bipush hX dX12_init_352 bp_105 ?_
  refine p_bast (a := 156) (N := 74) (j := 35) hX ht17 dX12_init_354 (by rw [L17]; decide +kernel) ⟨by rw [L17]; decide +kernel, by decide +kernel⟩ (by decide) inc_35_74 ixc_35 ?_
  refine p_dup hX dX12_init_355 rfl ?_
  refine p_bipush hX dX12_init_356 bp_36 ?_
  refine p_bipush hX dX12_init_358 bp_109 ?_
  refine p_bast (a := 156) (N := 74) (j := 36) hX ht17 dX12_init_360 (by rw [L17]; decide +kernel) ⟨by rw [L17]; decide +kernel, by decide +kernel⟩ (by decide) inc_36_74 ixc_36 ?_
  refine p_dup hX dX12_init_361 rfl ?_
  refine p_bipush hX dX12_init_362 bp_37 ?_
  refine p_bipush hX dX12_init_364 bp_101 ?_
  refine p_bast (a := 156) (N := 74) (j := 37) hX ht17 dX12_init_366 (by rw [L17]; decide +kernel) ⟨by rw [L17]; decide +kernel, by decide +kernel⟩ (by decide) inc_37_74 ixc_37 ?_
  refine p_dup hX dX12_init_367 rfl ?_
  refine p_bipush hX dX12_init_368 bp_38 ?_
  refine p_bipush hX dX12_init_370 bp_115 ?_
  refine p_bast (a := 156) (N := 74) (j := 38) hX ht17 dX12_init_372 (by rw [L17]; decide +kernel) ⟨by rw [L17]; decide +kernel, by decide +kernel⟩ (by decide) inc_38_74 ixc_38 ?_
  refine p_dup hX dX12_init_373 rfl ?_
  refine p_bipush hX dX12_init_374 bp_39 ?_
  refine p_bipush hX dX12_init_376 bp_32 ?_
  refine p_bast (a := 156) (N := 74) (j := 39) hX ht17 dX12_init_378 (by rw [L17]; decide +kernel) ⟨by rw [L17]; decide +kernel, by decide +kernel⟩ (by decide) inc_39_74 ixc_39 ?_
  refine p_dup hX dX12_init_379 rfl ?_
  refine p_bipush hX dX12_init_380 bp_40 ?_
  refine p_bipush hX dX12_init_382 bp_112 ?_
  refine p_bast (a := 156) (N := 74) (j := 40) hX ht17 dX12_init_384 (by rw [L17]; decide +kernel) ⟨by rw [L17]; decide +kernel, by decide +kernel⟩ (by decide) inc_40_74 ixc_40 ?_
  refine p_dup hX dX12_init_385 rfl ?_
  refine p_bipush hX dX12_init_386 bp_41 ?_
  refine p_bipush hX dX12_init_388 bp_111 ?_
  refine p_bast (a := 156) (N := 74) (j := 41) hX ht17 dX12_init_390 (by rw [L17]; decide +kernel) ⟨by rw [L17]; decide +kernel, by decide +kernel⟩ (by decide) inc_41_74 ixc_41 ?_
  refine p_dup hX dX12_init_391 rfl ?_
  refine p_bipush hX dX12_init_392 bp_42 ?_
  refine p_bipush hX dX12_init_394 bp_108 ?_
  refine p_bast (a := 156) (N := 74) (j := 42) hX ht17 dX12_init_396 (by rw [L17]; decide +kernel) ⟨by rw [L17]; decide +kernel, by decide +kernel⟩ (by decide) inc_42_74 ixc_42 ?_
  refine p_dup hX dX12_init_397 rfl ?_
  refine p_bipush hX dX12_init_398 bp_43 ?_
  refine p_bipush hX dX12_init_400 bp_105 ?_
  refine p_bast (a := 156) (N := 74) (j := 43) hX ht17 dX12_init_402 (by rw [L17]; decide +kernel) ⟨by rw [L17]; decide +kernel, by decide +kernel⟩ (by decide) inc_43_74 ixc_43 ?_
  refine p_dup hX dX12_init_403 rfl ?_
  refine p_bipush hX dX12_init_404 bp_44 ?_
  refine p_bipush hX dX12_init_406 bp_99 ?_
  refine p_bast (a := 156) (N := 74) (j := 44) hX ht17 dX12_init_408 (by rw [L17]; decide +kernel) ⟨by rw [L17]; decide +kernel, by decide +kernel⟩ (by decide) inc_44_74 ixc_44 ?_
  refine p_dup hX dX12_init_409 rfl ?_
  refine p_bipush hX dX12_init_410 bp_45 ?_
  refine p_bipush hX dX12_init_412 bp_121 ?_
  refine p_bast (a := 156) (N := 74) (j := 45) hX ht17 dX12_init_414 (by rw [L17]; decide +kernel) ⟨by rw [L17]; decide +kernel, by decide +kernel⟩ (by decide) inc_45_74 ixc_45 ?_
  refine p_dup hX dX12_init_415 rfl ?_
  refine p_bipush hX dX12_init_416 bp_46 ?_
  refine p_bipush hX dX12_init_418 bp_32 ?_
  refine p_bast (a := 156) (N := 74) (j := 46) hX ht17 dX12_init_420 (by rw [L17]; decide +kernel) ⟨by rw [L17]; decide +kernel, by decide +kernel⟩ (by decide) inc_46_74 ixc_46 ?_
  refine p_dup hX dX12_init_421 rfl ?_
  refine p_bipush hX dX12_init_422 bp_47 ?_
  refine p_bipush hX dX12_init_424 bp_114 ?_
  refine p_bast (a := 156) (N := 74) (j := 47) hX ht17 dX12_init_426 (by rw [L17]; decide +kernel) ⟨by rw [L17]; decide +kernel, by decide +kernel⟩ (by decide) inc_47_74 ixc_47 ?_
  refine p_dup hX dX12_init_427 rfl ?_
  refine p_bipush hX dX12_init_428 bp_48 ?_
  refine p_bipush hX dX12_init_430 bp_101 ?_
  refine p_bast (a := 156) (N := 74) (j := 48) hX ht17 dX12_init_432 (by rw [L17]; decide +kernel) ⟨by rw [L17]; decide +kernel, by decide +kernel⟩ (by decide) inc_48_74 ixc_48 ?_
  refine p_dup hX dX12_init_433 rfl ?_
  refine p_bipush hX dX12_init_434 bp_49 ?_
  refine p_bipush hX dX12_init_436 bp_116 ?_
  refine p_bast (a := 156) (N := 74) (j := 49) hX ht17 dX12_init_438 (by rw [L17]; decide +kernel) ⟨by rw [L17]; decide +kernel, by decide +kernel⟩ (by decide) inc_49_74 ixc_49 ?_
  refine p_dup hX dX12_init_439 rfl ?_
  refine p_bipush hX dX12_init_440 bp_50 ?_
  refine p_bipush hX dX12_init_442 bp_117 ?_
  refine p_bast (a := 156) (N := 74) (j := 50) hX ht17 dX12_init_444 (by rw [L17]; decide +kernel) ⟨by rw [L17]; decide +kernel, by decide +kernel⟩ (by decide) inc_50_74 ixc_50 ?_
  refine p_dup hX dX12_init_445 rfl ?_
  refine p_bipush hX dX12_init_446 bp_51 ?_
  refine p_bipush hX dX12_init_448 bp_114 ?_
  refine p_bast (a := 156) (N := 74) (j := 51) hX ht17 dX12_init_450 (by rw [L17]; decide +kernel) ⟨by rw [L17]; decide +kernel, by decide +kernel⟩ (by decide) inc_51_74 ixc_51 ?_
  refine p_dup hX dX12_init_451 rfl ?_
  refine p_bipush hX dX12_init_452 bp_52 ?_
  refine p_bipush hX dX12_init_454 bp_110 ?_
  refine p_bast (a := 156) (N := 74) (j := 52) hX ht17 dX12_init_456 (by rw [L17]; decide +kernel) ⟨by rw [L17]; decide +kernel, by decide +kernel⟩ (by decide) inc_52_74 ixc_52 ?_
  refine p_dup hX dX12_init_457 rfl ?_
  refine p_bipush hX dX12_init_458 bp_53 ?_
  refine p_bipush hX dX12_init_460 bp_32 ?_
  refine p_bast (a := 156) (N := 74) (j := 53) hX ht17 dX12_init_462 (by rw [L17]; decide +kernel) ⟨by rw [L17]; decide +kernel, by decide +kernel⟩ (by decide) inc_53_74 ixc_53 ?_
  refine p_dup hX dX12_init_463 rfl ?_
  refine p_bipush hX dX12_init_464 bp_54 ?_
  refine p_bipush hX dX12_init_466 bp_115 ?_
  refine p_bast (a := 156) (N := 74) (j := 54) hX ht17 dX12_init_468 (by rw [L17]; decide +kernel) ⟨by rw [L17]; decide +kernel, by decide +kernel⟩ (by decide) inc_54_74 ixc_54 ?_
  refine p_dup hX dX12_init_469 rfl ?_
  refine p_bipush hX dX12_init_470 bp_55 ?_
  refine p_bipush hX dX12_init_472 bp_115 ?_
  refine p_bast (a := 156) (N := 74) (j := 55) hX ht17 dX12_init_474 (by rw [L17]; decide +kernel) ⟨by rw [L17]; decide +kernel, by decide +kernel⟩ (by decide) inc_55_74 ixc_55 ?_
  refine p_dup hX dX12_init_475 rfl ?_
  refine p_bipush hX dX12_init_476 bp_56 ?_
  refine p_bipush hX dX12_init_478 bp_104 ?_
  refine p_bast (a := 156) (N := 74) (j := 56) hX ht17 dX12_init_480 (by rw [L17]; decide +kernel) ⟨by rw [L17]; decide +kernel, by decide +kernel⟩ (by decide) inc_56_74 ixc_56 ?_
  refine p_dup hX dX12_init_481 rfl ?_
  refine p_bipush hX dX12_init_482 bp_57 ?_
  refine p_bipush hX dX12_init_484 bp_97 ?_
  refine p_bast (a := 156) (N := 74) (j := 57) hX ht17 dX12_init_486 (by rw [L17]; decide +kernel) ⟨by rw [L17]; decide +kernel, by decide +kernel⟩ (by decide) inc_57_74 ixc_57 ?_
  refine p_dup hX dX12_init_487 rfl ?_
  refine p_bipush hX dX12_init_488 bp_58 ?_
  refine p_bipush hX dX12_init_490 bp_112 ?_
  refine p_bast (a := 156) (N := 74) (j := 58) hX ht17 dX12_init_492 (by rw [L17]; decide +kernel) ⟨by rw [L17]; decide +kernel, by decide +kernel⟩ (by decide) inc_58_74 ixc_58 ?_
  refine p_dup hX dX12_init_493 rfl ?_
  refine p_bipush hX dX12_init_494 bp_59 ?_
  refine p_bipush hX dX12_init_496 bp_101 ?_
  refine p_bast (a := 156) (N := 74) (j := 59) hX ht17 dX12_init_498 (by rw [L17]; decide +kernel) ⟨by rw [L17]; decide +kernel, by decide +kernel⟩ (by decide) inc_59_74 ixc_59 ?_
  refine p_dup hX dX12_init_499 rfl ?_
  refine p_bipush hX dX12_init_500 bp_60 ?_
  refine p_bipush hX dX12_init_502 bp_32 ?_
  refine p_bast (a := 156) (N := 74) (j := 60) hX ht17 dX12_init_504 (by rw [L17]; decide +kernel) ⟨by rw [L17]; decide +kernel, by decide +kernel⟩ (by decide) inc_60_74 ixc_60 ?_
  refine p_dup hX dX12_init_505 rfl ?_
  refine p_bipush hX dX12_init_506 bp_61 ?_
  refine p_bipush hX dX12_init_508 bp_103 ?_
  refine p_bast (a := 156) (N := 74) (j := 61) hX ht17 dX12_init_510 (by rw [L17]; decide +kernel) ⟨by rw [L17]; decide +kernel, by decide +kernel⟩ (by decide) inc_61_74 ixc_61 ?_
  refine p_dup hX dX12_init_511 rfl ?_
  refine p_bipush hX dX12_init_512 bp_62 ?_
  refine p_bipush hX dX12_init_514 bp_97 ?_
  refine p_bast (a := 156) (N := 74) (j := 62) hX ht17 dX12_init_516 (by rw [L17]; decide +kernel) ⟨by rw [L17]; decide +kernel, by decide +kernel⟩ (by decide) inc_62_74 ixc_62 ?_
  refine p_dup hX dX12_init_517 rfl ?_
  refine p_bipush hX dX12_init_518 bp_63 ?_
  refine p_bipush hX dX12_init_520 bp_112 ?_
  refine p_bast (a := 156) (N := 74) (j := 63) hX ht17 dX12_init_522 (by rw [L17]; decide +kernel) ⟨by rw [L17]; decide +kernel, by decide +kernel⟩ (by decide) inc_63_74 ixc_63 ?_
  refine p_dup hX dX12_init_523 rfl ?_
  refine p_bipush hX dX12_init_524 bp_64 ?_
  refine p_bipush hX dX12_init_526 bp_32 ?_
  refine p_bast (a := 156) (N := 74) (j := 64) hX ht17 dX12_init_528 (by rw [L17]; decide +kernel) ⟨by rw [L17]; decide +kernel, by decide +kernel⟩ (by decide) inc_64_74 ixc_64 ?_
  refine p_dup hX dX12_init_529 rfl ?_
  refine p_bipush hX dX12_init_530 bp_65 ?_
  refine p_bipush hX dX12_init_532 bp_99 ?_
  refine p_bast (a := 156) (N := 74) (j := 65) hX ht17 dX12_init_534 (by rw [L17]; decide +kernel) ⟨by rw [L17]; decide +kernel, by decide +kernel⟩ (by decide) inc_65_74 ixc_65 ?_
  refine p_dup hX dX12_init_535 rfl ?_
  refine p_bipush hX dX12_init_536 bp_66 ?_
  refine p_bipush hX dX12_init_538 bp_111 ?_
  refine p_bast (a := 156) (N := 74) (j := 66) hX ht17 dX12_init_540 (by rw [L17]; decide +kernel) ⟨by rw [L17]; decide +kernel, by decide +kernel⟩ (by decide) inc_66_74 ixc_66 ?_
  refine p_dup hX dX12_init_541 rfl ?_
  refine p_bipush hX dX12_init_542 bp_67 ?_
  refine p_bipush hX dX12_init_544 bp_109 ?_
  refine p_bast (a := 156) (N := 74) (j := 67) hX ht17 dX12_init_546 (by rw [L17]; decide +kernel) ⟨by rw [L17]; decide +kernel, by decide +kernel⟩ (by decide) inc_67_74 ixc_67 ?_
  refine p_dup hX dX12_init_547 rfl ?_
  refine p_bipush hX dX12_init_548 bp_68 ?_
  refine p_bipush hX dX12_init_550 bp_98 ?_
  refine p_bast (a := 156) (N := 74) (j := 68) hX ht17 dX12_init_552 (by rw [L17]; decide +kernel) ⟨by rw [L17]; decide +kernel, by decide +kernel⟩ (by decide) inc_68_74 ixc_68 ?_
  refine p_dup hX dX12_init_553 rfl ?_
  refine p_bipush hX dX12_init_554 bp_69 ?_
  refine p_bipush hX dX12_init_556 bp_105 ?_
  refine p_bast (a := 156) (N := 74) (j := 69) hX ht17 dX12_init_558 (by rw [L17]; decide +kernel) ⟨by rw [L17]; decide +kernel, by decide +kernel⟩ (by decide) inc_69_74 ixc_69 ?_
  refine p_dup hX dX12_init_559 rfl ?_
  refine p_bipush hX dX12_init_560 bp_70 ?_
  refine p_bipush hX dX12_init_562 bp_110 ?_
  refine p_bast (a := 156) (N := 74) (j := 70) hX ht17 dX12_init_564 (by rw [L17]; decide +kernel) ⟨by rw [L17]; decide +kernel, by decide +kernel⟩ (by decide) inc_70_74 ixc_70 ?_
  refine p_dup hX dX12_init_565 rfl ?_
  refine p_bipush hX dX12_init_566 bp_71 ?_
  refine p_bipush hX dX12_init_568 bp_101 ?_
  refine p_bast (a := 156) (N := 74) (j := 71) hX ht17 dX12_init_570 (by rw [L17]; decide +kernel) ⟨by rw [L17]; decide +kernel, by decide +kernel⟩ (by decide) inc_71_74 ixc_71 ?_
  refine p_dup hX dX12_init_571 rfl ?_
  refine p_bipush hX dX12_init_572 bp_72 ?_
  refine p_bipush hX dX12_init_574 bp_100 ?_
  refine p_bast (a := 156) (N := 74) (j := 72) hX ht17 dX12_init_576 (by rw [L17]; decide +kernel) ⟨by rw [L17]; decide +kernel, by decide +kernel⟩ (by decide) inc_72_74 ixc_72 ?_
  refine p_dup hX dX12_init_577 rfl ?_
  refine p_bipush hX dX12_init_578 bp_73 ?_
  refine p_bipush hX dX12_init_580 bp_32 ?_
  refine p_bast (a := 156) (N := 74) (j := 73) hX ht17 dX12_init_582 (by rw [L17]; decide +kernel) ⟨by rw [L17]; decide +kernel, by decide +kernel⟩ (by decide) inc_73_74 ixc_73 ?_
  refine p_putR (f := 30) (off := 17) (j := 156) (C := RX12) (T := TX12) (N := 31) (ty := tyX12) hX hp dX12_init_583 rfl (Nat.le_of_ble_eq_true rfl) rfl rfl w_1662 inws_11 tyX12_ok nmX12 rfl (fun a => ⟨rfl, rfl⟩) rfl rfl ?_
  refine p_abs hX ht17 (all_of (by decide +kernel)) (by decide +kernel) (nin L17 (by decide +kernel)) (DNI_of L17 (by decide +kernel)) (CL_of L17 (by decide +kernel) (no6 (by decide +kernel))) (by rw [L17]; decide +kernel) (fun G18 ht18 l18 gi a18 hY => ?_)
  have L18 : gL G18 = [140, 141, 142, 143, 144, 145, 146, 147, 148, 149, 150, 151, 152, 153, 154, 155, 156, 139] := by rw [l18, L17]; rfl
  have e0 : (Value.ref h0) = vr (xG (xA X, G18, X.2.2)) 139 := by show _ = Value.ref (gad G18 139); rw [gi]
  rw [e0]
  refine x_aloadn hY dX12_init_586 rfl ?_
  have hs : MOK (xG (xA X, G18, X.2.2)) := MOK_of L18 (by decide +kernel)
  refine x_callVv (t := 11) (As := []) (rest := []) hY dX12_init_587 (cm_X12_begins (gk hY) (gl hY) hs _ _ er139) kX12_begins vX12_begins w_1628 (stm139 hs) rfl rfl rfl rfl (Nat.le_of_ble_eq_true rfl) ⟨Nat.le_trans (Nat.le_of_ble_eq_true rfl) (Nat.le_of_eq hp.2.2.1.symm), Nat.le_trans (Nat.le_of_ble_eq_true rfl) (Nat.le_of_eq hp.2.2.2.symm)⟩ ?_
  exact x_cret (X := (xA X, G18, X.2.2)) hY (ht18.trans (by rw [eG]; rfl)) gi hA L18 dX12_init_590 (Nat.le_of_ble_eq_true rfl) (Nat.le_of_ble_eq_true rfl) rfl
