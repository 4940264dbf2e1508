theorem inb2 {i : Int} (h : inb i 2) : ix i < 2 := by rw [ix_eq]; obtain ⟨h1, h2⟩ := h; omega
set_option maxRecDepth 100000 in
set_option maxHeartbeats 4000000 in
theorem c_X11_restore {l : Launch} {G : Gx} (hG : GOK G) (hl : l.stackTraces = false) (hs : SOK G)  (x1 : Int) (M : Mem) (hsv : ∀ j : Nat, j < 2 → ¬ M 37 j = 0 → at_ G (160 + 18 * j) 11 0) (r : Nat ⊕ Unit) (Mr : Mem) (h : f_X11_restore x1 M = some (r, Mr)) : Cx l G mX11_restore 3 2 12 [vr G 0, vi x1] M (ovu r) Mr := by
  refine Cx_of2 (ls := [some (vr G 0), some (vi x1), none]) hG hl kX11_restore rfl (Nat.le_of_ble_eq_true rfl) rfl rfl rfl rfl rfl (fun X eG el hX hN => ?_)
  subst eG; subst el
  unfold f_X11_restore at h
  refine x_iloadn hX dX11_restore_0 rfl ?_
  refine x_iconst hX dX11_restore_1 ?_
  refine x_iconst hX dX11_restore_2 ?_
  rcases cx1_of h with ⟨e_3, ee_3, h⟩ | ⟨r_1, er_1, h⟩
  · exact x_rs2 (f := ovu) h (x_xSt (As := [vi x1, vi 0, vi 1]) (rest := []) hX hN dX11_restore_3 (c_X11_needArgument (gk hX) (gl hX) x1 0 1 M _ ee_3) kX11_needArgument sX11_needArgument w_965 rfl rfl rfl (Nat.le_of_ble_eq_true rfl) (Nat.le_of_ble_eq_true rfl) (Nat.le_of_ble_eq_true rfl))
  · refine x_xSr (As := [vi x1, vi 0, vi 1]) (rest := []) hX dX11_restore_3 (c_X11_needArgument (gk hX) (gl hX) x1 0 1 M _ er_1) kX11_needArgument sX11_needArgument w_965 rfl rfl rfl (Nat.le_of_ble_eq_true rfl) (kf hN (a := 1) (b := 6) (Nat.le_of_ble_eq_true rfl) (Nat.le_of_ble_eq_true rfl)) ?_
    show V X 1 6 _ 6 [some (vr (xG X) 0), some (vi x1), none] [] M
    refine x_aloadn hX dX11_restore_6 rfl ?_
    refine x_getRj (j := 37) hX dX11_restore_7 fl_X11_19 rfl (st0 hs) rfl ?_
    refine x_iloadn hX dX11_restore_10 rfl ?_
    obtain ⟨b_4, h⟩ := gi_of h
    by_cases hc : M 37 (ix x1) = 0
    · replace h := (if_pos hc).symm.trans h
      refine x_aald6z hX dX11_restore_11 (st37 hs) b_4 hc ?_
      refine x_nstoren (ls' := [some (vr (xG X) 0), some (vi x1), some (.null)]) hX dX11_restore_12 rfl rfl ?_
      refine x_nloadn hX dX11_restore_13 rfl ?_
      refine x_nonnullN hX dX11_restore_14 ?_
      cases h
      exact x_thrW (x := 1) (k' := 26) hX hN dX11_restore_17 dX11_restore_20 dX11_restore_21 dX11_restore_24 dX11_restore_27 thr_72_76 rfl (Nat.le_of_ble_eq_true rfl) (Nat.le_of_ble_eq_true rfl) (Nat.le_of_ble_eq_true rfl)
    · replace h := (if_neg hc).symm.trans h
      refine x_aald6 hX dX11_restore_11 (st37 hs) b_4 hc ?_
      refine x_astoren (ls' := [some (vr (xG X) 0), some (vi x1), some (vr (xG X) (160 + 18 * ix x1))]) hX dX11_restore_12 rfl rfl ?_
      refine x_aloadn hX dX11_restore_13 rfl ?_
      refine x_nonnullR (tgt := 28) hX dX11_restore_14 (by decide) ?_
      refine x_aloadn hX dX11_restore_28 rfl ?_
      refine x_getRj (j := 1) hX dX11_restore_29 fl_X11_10 rfl (st0 hs) rfl ?_
      refine x_aloadn hX dX11_restore_32 rfl ?_
      obtain ⟨M_6, er_5, h⟩ := cl1_of h
      refine x_callVv (t := 1) (As := [vr (xG X) (160 + 18 * ix x1)]) (rest := []) hX dX11_restore_33 (c_X1_copyFrom (gk hX) (gl hX) (st1 hs) (hsv _ (inb2 b_4) hc) M _ er_5) kX1_copyFrom vX1_copyFrom w_922 (st1 hs) rfl rfl rfl rfl (Nat.le_of_ble_eq_true rfl) (kf hN (a := 1) (b := 6) (Nat.le_of_ble_eq_true rfl) (Nat.le_of_ble_eq_true rfl)) ?_
      cases h
      exact x_vretX hX dX11_restore_36 (Nat.le_of_ble_eq_true rfl) (Nat.le_of_ble_eq_true rfl)
