set_option maxRecDepth 100000 in
set_option maxHeartbeats 4000000 in
theorem law_0 {X : Cxt} (hX : Gd X RL cL_law 7 (some .boolean) 40) (hs : SOK (xG X)) (h3 : at_ (xG X) 157 4 1) {b Lx : Nat} {sx : Nat → Int} (hx : SX X b Lx sx) (x4 p1 p2 p3 p4 : Int) (b1 : inb (x4 + 1) Lx) (b2 : inb (x4 + 2) Lx) (b3 : inb (x4 + 3) Lx) (b4 : inb (x4 + 4) Lx) (e1 : sx (ix (x4 + 1)) = p1) (e2 : sx (ix (x4 + 2)) = p2) (e3 : sx (ix (x4 + 3)) = p3) (e4 : sx (ix (x4 + 4)) = p4) {k n : Nat} (hk : k + 5 ≤ (xR X).cells ∧ n + 30 ≤ (xR X).slots) {Q : State → Prop} (M Mr : Mem) (h : L_0 p1 p2 p3 p4 M = some Mr) (hE : V X (k + 5) (n + 30) Q 3147 [some (.ref b), some (vr (xG X) 0), some (vr (xG X) 139), some (vr (xG X) 157), some (vi x4), none, none] [] Mr) : V X k n Q 284 [some (.ref b), some (vr (xG X) 0), some (vr (xG X) 139), some (vr (xG X) 157), some (vi x4), none, none] [] M := by
  unfold L_0 at h
  refine x_aloadn hX dL_law_284 rfl ?_
  refine x_qload hX dL_law_285 rfl ?_
  refine x_iload hX dL_law_286 rfl ?_
  refine x_iconst hX dL_law_288 ?_
  refine x_iadd hX dL_law_289 ?_
  refine x_sld hX hx dL_law_290 b1 e1 ?_
  refine x_qload hX dL_law_291 rfl ?_
  refine x_iload hX dL_law_292 rfl ?_
  refine x_iconst hX dL_law_294 ?_
  refine x_iadd hX dL_law_295 ?_
  refine x_sld hX hx dL_law_296 b2 e2 ?_
  refine x_qload hX dL_law_297 rfl ?_
  refine x_iload hX dL_law_298 rfl ?_
  refine x_iconst hX dL_law_300 ?_
  refine x_iadd hX dL_law_301 ?_
  refine x_sld hX hx dL_law_302 b3 e3 ?_
  refine x_aloadn hX dL_law_303 rfl ?_
  obtain ⟨r_1, M_2, er_1, h⟩ := cl2_of h
  refine x_wS (As := [vr (xG X) 0, vi p1, vi p2, vi p3, vr (xG X) 157]) (rest := []) hX dL_law_304 (c_L_setLayout (gk hX) (gl hX) hs h3 p1 p2 p3 M _ _ er_1) kL_setLayout w_956 rfl rfl rfl (Nat.le_of_ble_eq_true rfl) ⟨Nat.le_trans (Nat.add_le_add_left (Nat.le_of_ble_eq_true rfl : 4 ≤ 5) _) hk.1, Nat.le_trans (Nat.add_le_add_left (Nat.le_of_ble_eq_true rfl : 24 ≤ 30) _) hk.2⟩ ?_
  show V X (k + 4) (n + 24) Q 307 [some (.ref b), some (vr (xG X) 0), some (vr (xG X) 139), some (vr (xG X) 157), some (vi x4), none, none] [vi r_1] M_2
  refine x_istore (ls' := [some (.ref b), some (vr (xG X) 0), some (vr (xG X) 139), some (vr (xG X) 157), some (vi x4), some (vi r_1), none]) hX dL_law_307 rfl rfl rfl ?_
  refine x_aloadn hX dL_law_309 rfl ?_
  refine x_qload hX dL_law_310 rfl ?_
  refine x_iload hX dL_law_311 rfl ?_
  refine x_iconst hX dL_law_313 ?_
  refine x_iadd hX dL_law_314 ?_
  refine x_sld hX hx dL_law_315 b1 e1 ?_
  refine x_qload hX dL_law_316 rfl ?_
  refine x_iload hX dL_law_317 rfl ?_
  refine x_iconst hX dL_law_319 ?_
  refine x_iadd hX dL_law_320 ?_
  refine x_sld hX hx dL_law_321 b2 e2 ?_
  refine x_qload hX dL_law_322 rfl ?_
  refine x_iload hX dL_law_323 rfl ?_
  refine x_iconst hX dL_law_325 ?_
  refine x_iadd hX dL_law_326 ?_
  refine x_sld hX hx dL_law_327 b3 e3 ?_
  obtain ⟨r_3, M_4, er_3, h⟩ := cl2_of h
  refine x_callVi (t := 11) (As := [vi p1, vi p2, vi p3]) (rest := []) hX dL_law_328 (c_X12_setLayout (gk hX) (gl hX) hs p1 p2 p3 M_2 _ _ er_3) kX12_setLayout vX12_setLayout w_1731 (st139 hs) rfl rfl rfl rfl (Nat.le_of_ble_eq_true rfl) ⟨Nat.le_trans (Nat.add_le_add_left (Nat.le_of_ble_eq_true rfl : 4 ≤ 5) _) hk.1, Nat.le_trans (Nat.add_le_add_left (Nat.le_of_ble_eq_true rfl : 24 ≤ 30) _) hk.2⟩ ?_
  refine x_istore (ls' := [some (.ref b), some (vr (xG X) 0), some (vr (xG X) 139), some (vr (xG X) 157), some (vi x4), some (vi r_1), some (vi r_3)]) hX dL_law_331 rfl rfl rfl ?_
  refine x_aloadn hX dL_law_333 rfl ?_
  obtain ⟨r_5, er_5, h⟩ := cl1_of h
  refine x_callVi (t := 11) (As := []) (rest := []) hX dL_law_334 (c_X12_thrown (gk hX) (gl hX) hs  M_4 _ er_5) kX12_thrown vX12_thrown w_1727 (st139 hs) rfl rfl rfl rfl (Nat.le_of_ble_eq_true rfl) ⟨Nat.le_trans (Nat.add_le_add_left (Nat.le_of_ble_eq_true rfl : 4 ≤ 5) _) hk.1, Nat.le_trans (Nat.add_le_add_left (Nat.le_of_ble_eq_true rfl : 24 ≤ 30) _) hk.2⟩ ?_
  refine x_iload hX dL_law_337 rfl ?_
  refine x_icmp_eq (tgt := 344) hX dL_law_339 (by decide) rfl rfl (fun hc => ?_) (fun hc => ?_)
  · replace h := (if_pos hc).symm.trans h
    refine x_iload hX dL_law_344 rfl ?_
    refine x_if_ne (tgt := 361) hX dL_law_346 (by decide) rfl (fun hc => ?_) (fun hc => ?_)
    · replace h := (if_pos hc).symm.trans h
      refine x_aloadn hX dL_law_349 rfl ?_
      refine x_iconst hX dL_law_350 ?_
      refine x_lald hX dL_law_351 h3 inc_0_1 ixc_0 ?_
      refine x_iload hX dL_law_352 rfl ?_
      refine x_i2l hX dL_law_354 ?_
      refine x_lcmp hX dL_law_355 ?_
      refine x_if_eq (tgt := 361) hX dL_law_356 (by decide) rfl (fun hc => ?_) (fun hc => ?_)
      · replace h := (if_pos hc).symm.trans h
        refine x_goto (tgt := 3147) hX dL_law_361 (by decide) ?_
        cases h
        exact x_wid (k2 := k + 5) (n2 := n + 30) (Nat.add_le_add_left (Nat.le_of_ble_eq_true rfl : 4 ≤ 5) _) (Nat.add_le_add_left (Nat.le_of_ble_eq_true rfl : 24 ≤ 30) _) (x_weak [true, true, true, true, true, false, false] rfl hE)
      · replace h := (if_neg hc).symm.trans h
        refine x_iconst hX dL_law_359 ?_
        cases h
    · replace h := (if_neg hc).symm.trans h
      refine x_goto (tgt := 3147) hX dL_law_361 (by decide) ?_
      cases h
      exact x_wid (k2 := k + 5) (n2 := n + 30) (Nat.add_le_add_left (Nat.le_of_ble_eq_true rfl : 4 ≤ 5) _) (Nat.add_le_add_left (Nat.le_of_ble_eq_true rfl : 24 ≤ 30) _) (x_weak [true, true, true, true, true, false, false] rfl hE)
  · replace h := (if_neg hc).symm.trans h
    refine x_iconst hX dL_law_342 ?_
    cases h

set_option maxRecDepth 100000 in
set_option maxHeartbeats 4000000 in
theorem law_1 {X : Cxt} (hX : Gd X RL cL_law 7 (some .boolean) 40) (hs : SOK (xG X)) (h3 : at_ (xG X) 157 4 1) {b Lx : Nat} {sx : Nat → Int} (hx : SX X b Lx sx) (x4 p1 p2 p3 p4 : Int) (b1 : inb (x4 + 1) Lx) (b2 : inb (x4 + 2) Lx) (b3 : inb (x4 + 3) Lx) (b4 : inb (x4 + 4) Lx) (e1 : sx (ix (x4 + 1)) = p1) (e2 : sx (ix (x4 + 2)) = p2) (e3 : sx (ix (x4 + 3)) = p3) (e4 : sx (ix (x4 + 4)) = p4) {k n : Nat} (hk : k + 5 ≤ (xR X).cells ∧ n + 30 ≤ (xR X).slots) {Q : State → Prop} (M Mr : Mem) (h : L_1 p1 p2 p3 p4 M = some Mr) (hE : V X (k + 5) (n + 30) Q 3147 [some (.ref b), some (vr (xG X) 0), some (vr (xG X) 139), some (vr (xG X) 157), some (vi x4), none, none] [] Mr) : V X k n Q 364 [some (.ref b), some (vr (xG X) 0), some (vr (xG X) 139), some (vr (xG X) 157), some (vi x4), none, none] [] M := by
  unfold L_1 at h
  refine x_aloadn hX dL_law_364 rfl ?_
  obtain ⟨r_1, er_1, h⟩ := cl1_of h
  refine x_callVi (t := 10) (As := []) (rest := []) hX dL_law_365 (c_X11_aisleCount (gk hX) (gl hX) hs  M _ er_1) kX11_aisleCount vX11_aisleCount w_584 (st0 hs) rfl rfl rfl rfl (Nat.le_of_ble_eq_true rfl) ⟨Nat.le_trans (Nat.add_le_add_left (Nat.le_of_ble_eq_true rfl : 0 ≤ 5) _) hk.1, Nat.le_trans (Nat.add_le_add_left (Nat.le_of_ble_eq_true rfl : 0 ≤ 30) _) hk.2⟩ ?_
  refine x_aloadn hX dL_law_368 rfl ?_
  obtain ⟨r_3, M_4, er_3, h⟩ := cl2_of h
  refine x_callVi (t := 11) (As := []) (rest := [vi r_1]) hX dL_law_369 (c_X12_aisleCount (gk hX) (gl hX) hs  M _ _ er_3) kX12_aisleCount vX12_aisleCount w_1742 (st139 hs) rfl rfl rfl rfl (Nat.le_of_ble_eq_true rfl) ⟨Nat.le_trans (Nat.add_le_add_left (Nat.le_of_ble_eq_true rfl : 0 ≤ 5) _) hk.1, Nat.le_trans (Nat.add_le_add_left (Nat.le_of_ble_eq_true rfl : 0 ≤ 30) _) hk.2⟩ ?_
  refine x_icmp_eq (tgt := 3147) hX dL_law_372 (by decide) rfl rfl (fun hc => ?_) (fun hc => ?_)
  · replace h := (if_pos hc).symm.trans h
    cases h
    exact x_wid (k2 := k + 5) (n2 := n + 30) (Nat.add_le_add_left (Nat.le_of_ble_eq_true rfl : 0 ≤ 5) _) (Nat.add_le_add_left (Nat.le_of_ble_eq_true rfl : 0 ≤ 30) _) (x_weak [true, true, true, true, true, false, false] rfl hE)
  · replace h := (if_neg hc).symm.trans h
    refine x_iconst hX dL_law_375 ?_
    cases h

set_option maxRecDepth 100000 in
set_option maxHeartbeats 4000000 in
theorem law_2 {X : Cxt} (hX : Gd X RL cL_law 7 (some .boolean) 40) (hs : SOK (xG X)) (h3 : at_ (xG X) 157 4 1) {b Lx : Nat} {sx : Nat → Int} (hx : SX X b Lx sx) (x4 p1 p2 p3 p4 : Int) (b1 : inb (x4 + 1) Lx) (b2 : inb (x4 + 2) Lx) (b3 : inb (x4 + 3) Lx) (b4 : inb (x4 + 4) Lx) (e1 : sx (ix (x4 + 1)) = p1) (e2 : sx (ix (x4 + 2)) = p2) (e3 : sx (ix (x4 + 3)) = p3) (e4 : sx (ix (x4 + 4)) = p4) {k n : Nat} (hk : k + 5 ≤ (xR X).cells ∧ n + 30 ≤ (xR X).slots) {Q : State → Prop} (M Mr : Mem) (h : L_2 p1 p2 p3 p4 M = some Mr) (hE : V X (k + 5) (n + 30) Q 3147 [some (.ref b), some (vr (xG X) 0), some (vr (xG X) 139), some (vr (xG X) 157), some (vi x4), none, none] [] Mr) : V X k n Q 377 [some (.ref b), some (vr (xG X) 0), some (vr (xG X) 139), some (vr (xG X) 157), some (vi x4), none, none] [] M := by
  unfold L_2 at h
  refine x_aloadn hX dL_law_377 rfl ?_
  refine x_qload hX dL_law_378 rfl ?_
  refine x_iload hX dL_law_379 rfl ?_
  refine x_iconst hX dL_law_381 ?_
  refine x_iadd hX dL_law_382 ?_
  refine x_sld hX hx dL_law_383 b1 e1 ?_
  refine x_qload hX dL_law_384 rfl ?_
  refine x_iload hX dL_law_385 rfl ?_
  refine x_iconst hX dL_law_387 ?_
  refine x_iadd hX dL_law_388 ?_
  refine x_sld hX hx dL_law_389 b2 e2 ?_
  refine x_qload hX dL_law_390 rfl ?_
  refine x_iload hX dL_law_391 rfl ?_
  refine x_iconst hX dL_law_393 ?_
  refine x_iadd hX dL_law_394 ?_
  refine x_sld hX hx dL_law_395 b3 e3 ?_
  refine x_qload hX dL_law_396 rfl ?_
  refine x_iload hX dL_law_397 rfl ?_
  refine x_iconst hX dL_law_399 ?_
  refine x_iadd hX dL_law_400 ?_
  refine x_sld hX hx dL_law_401 b4 e4 ?_
  refine x_aloadn hX dL_law_402 rfl ?_
  obtain ⟨r_1, M_2, er_1, h⟩ := cl2_of h
  refine x_wS (As := [vr (xG X) 0, vi p1, vi p2, vi p3, vi p4, vr (xG X) 157]) (rest := []) hX dL_law_403 (c_L_addItem (gk hX) (gl hX) hs h3 p1 p2 p3 p4 M _ _ er_1) kL_addItem w_1052 rfl rfl rfl (Nat.le_of_ble_eq_true rfl) ⟨Nat.le_trans (Nat.add_le_add_left (Nat.le_of_ble_eq_true rfl : 5 ≤ 5) _) hk.1, Nat.le_trans (Nat.add_le_add_left (Nat.le_of_ble_eq_true rfl : 30 ≤ 30) _) hk.2⟩ ?_
  show V X (k + 5) (n + 30) Q 406 [some (.ref b), some (vr (xG X) 0), some (vr (xG X) 139), some (vr (xG X) 157), some (vi x4), none, none] [vi r_1] M_2
  refine x_istore (ls' := [some (.ref b), some (vr (xG X) 0), some (vr (xG X) 139), some (vr (xG X) 157), some (vi x4), some (vi r_1), none]) hX dL_law_406 rfl rfl rfl ?_
  refine x_aloadn hX dL_law_408 rfl ?_
  refine x_qload hX dL_law_409 rfl ?_
  refine x_iload hX dL_law_410 rfl ?_
  refine x_iconst hX dL_law_412 ?_
  refine x_iadd hX dL_law_413 ?_
  refine x_sld hX hx dL_law_414 b1 e1 ?_
  refine x_qload hX dL_law_415 rfl ?_
  refine x_iload hX dL_law_416 rfl ?_
  refine x_iconst hX dL_law_418 ?_
  refine x_iadd hX dL_law_419 ?_
  refine x_sld hX hx dL_law_420 b2 e2 ?_
  refine x_qload hX dL_law_421 rfl ?_
  refine x_iload hX dL_law_422 rfl ?_
  refine x_iconst hX dL_law_424 ?_
  refine x_iadd hX dL_law_425 ?_
  refine x_sld hX hx dL_law_426 b3 e3 ?_
  refine x_qload hX dL_law_427 rfl ?_
  refine x_iload hX dL_law_428 rfl ?_
  refine x_iconst hX dL_law_430 ?_
  refine x_iadd hX dL_law_431 ?_
  refine x_sld hX hx dL_law_432 b4 e4 ?_
  obtain ⟨r_3, M_4, er_3, h⟩ := cl2_of h
  refine x_callVi (t := 11) (As := [vi p1, vi p2, vi p3, vi p4]) (rest := []) hX dL_law_433 (c_X12_addItem (gk hX) (gl hX) hs p1 p2 p3 p4 M_2 _ _ er_3) kX12_addItem vX12_addItem w_1746 (st139 hs) rfl rfl rfl rfl (Nat.le_of_ble_eq_true rfl) ⟨Nat.le_trans (Nat.add_le_add_left (Nat.le_of_ble_eq_true rfl : 5 ≤ 5) _) hk.1, Nat.le_trans (Nat.add_le_add_left (Nat.le_of_ble_eq_true rfl : 30 ≤ 30) _) hk.2⟩ ?_
  refine x_istore (ls' := [some (.ref b), some (vr (xG X) 0), some (vr (xG X) 139), some (vr (xG X) 157), some (vi x4), some (vi r_1), some (vi r_3)]) hX dL_law_436 rfl rfl rfl ?_
  refine x_aloadn hX dL_law_438 rfl ?_
  obtain ⟨r_5, er_5, h⟩ := cl1_of h
  refine x_callVi (t := 11) (As := []) (rest := []) hX dL_law_439 (c_X12_thrown (gk hX) (gl hX) hs  M_4 _ er_5) kX12_thrown vX12_thrown w_1727 (st139 hs) rfl rfl rfl rfl (Nat.le_of_ble_eq_true rfl) ⟨Nat.le_trans (Nat.add_le_add_left (Nat.le_of_ble_eq_true rfl : 5 ≤ 5) _) hk.1, Nat.le_trans (Nat.add_le_add_left (Nat.le_of_ble_eq_true rfl : 30 ≤ 30) _) hk.2⟩ ?_
  refine x_iload hX dL_law_442 rfl ?_
  refine x_icmp_eq (tgt := 449) hX dL_law_444 (by decide) rfl rfl (fun hc => ?_) (fun hc => ?_)
  · replace h := (if_pos hc).symm.trans h
    refine x_iload hX dL_law_449 rfl ?_
    refine x_if_ne (tgt := 466) hX dL_law_451 (by decide) rfl (fun hc => ?_) (fun hc => ?_)
    · replace h := (if_pos hc).symm.trans h
      refine x_aloadn hX dL_law_454 rfl ?_
      refine x_iconst hX dL_law_455 ?_
      refine x_lald hX dL_law_456 h3 inc_0_1 ixc_0 ?_
      refine x_iload hX dL_law_457 rfl ?_
      refine x_i2l hX dL_law_459 ?_
      refine x_lcmp hX dL_law_460 ?_
      refine x_if_eq (tgt := 466) hX dL_law_461 (by decide) rfl (fun hc => ?_) (fun hc => ?_)
      · replace h := (if_pos hc).symm.trans h
        refine x_goto (tgt := 3147) hX dL_law_466 (by decide) ?_
        cases h
        exact x_wid (k2 := k + 5) (n2 := n + 30) (Nat.add_le_add_left (Nat.le_of_ble_eq_true rfl : 5 ≤ 5) _) (Nat.add_le_add_left (Nat.le_of_ble_eq_true rfl : 30 ≤ 30) _) (x_weak [true, true, true, true, true, false, false] rfl hE)
      · replace h := (if_neg hc).symm.trans h
        refine x_iconst hX dL_law_464 ?_
        cases h
    · replace h := (if_neg hc).symm.trans h
      refine x_goto (tgt := 3147) hX dL_law_466 (by decide) ?_
      cases h
      exact x_wid (k2 := k + 5) (n2 := n + 30) (Nat.add_le_add_left (Nat.le_of_ble_eq_true rfl : 5 ≤ 5) _) (Nat.add_le_add_left (Nat.le_of_ble_eq_true rfl : 30 ≤ 30) _) (x_weak [true, true, true, true, true, false, false] rfl hE)
  · replace h := (if_neg hc).symm.trans h
    refine x_iconst hX dL_law_447 ?_
    cases h

set_option maxRecDepth 100000 in
set_option maxHeartbeats 4000000 in
theorem law_3 {X : Cxt} (hX : Gd X RL cL_law 7 (some .boolean) 40) (hs : SOK (xG X)) (h3 : at_ (xG X) 157 4 1) {b Lx : Nat} {sx : Nat → Int} (hx : SX X b Lx sx) (x4 p1 p2 p3 p4 : Int) (b1 : inb (x4 + 1) Lx) (b2 : inb (x4 + 2) Lx) (b3 : inb (x4 + 3) Lx) (b4 : inb (x4 + 4) Lx) (e1 : sx (ix (x4 + 1)) = p1) (e2 : sx (ix (x4 + 2)) = p2) (e3 : sx (ix (x4 + 3)) = p3) (e4 : sx (ix (x4 + 4)) = p4) {k n : Nat} (hk : k + 5 ≤ (xR X).cells ∧ n + 30 ≤ (xR X).slots) {Q : State → Prop} (M Mr : Mem) (h : L_3 p1 p2 p3 p4 M = some Mr) (hE : V X (k + 5) (n + 30) Q 3147 [some (.ref b), some (vr (xG X) 0), some (vr (xG X) 139), some (vr (xG X) 157), some (vi x4), none, none] [] Mr) : V X k n Q 469 [some (.ref b), some (vr (xG X) 0), some (vr (xG X) 139), some (vr (xG X) 157), some (vi x4), none, none] [] M := by
  unfold L_3 at h
  refine x_aloadn hX dL_law_469 rfl ?_
  obtain ⟨r_1, er_1, h⟩ := cl1_of h
  refine x_callVi (t := 10) (As := []) (rest := []) hX dL_law_470 (c_X11_itemCount (gk hX) (gl hX) hs  M _ er_1) kX11_itemCount vX11_itemCount w_588 (st0 hs) rfl rfl rfl rfl (Nat.le_of_ble_eq_true rfl) ⟨Nat.le_trans (Nat.add_le_add_left (Nat.le_of_ble_eq_true rfl : 0 ≤ 5) _) hk.1, Nat.le_trans (Nat.add_le_add_left (Nat.le_of_ble_eq_true rfl : 0 ≤ 30) _) hk.2⟩ ?_
  refine x_aloadn hX dL_law_473 rfl ?_
  obtain ⟨r_3, M_4, er_3, h⟩ := cl2_of h
  refine x_callVi (t := 11) (As := []) (rest := [vi r_1]) hX dL_law_474 (c_X12_itemCount (gk hX) (gl hX) hs  M _ _ er_3) kX12_itemCount vX12_itemCount w_1758 (st139 hs) rfl rfl rfl rfl (Nat.le_of_ble_eq_true rfl) ⟨Nat.le_trans (Nat.add_le_add_left (Nat.le_of_ble_eq_true rfl : 0 ≤ 5) _) hk.1, Nat.le_trans (Nat.add_le_add_left (Nat.le_of_ble_eq_true rfl : 0 ≤ 30) _) hk.2⟩ ?_
  refine x_icmp_eq (tgt := 3147) hX dL_law_477 (by decide) rfl rfl (fun hc => ?_) (fun hc => ?_)
  · replace h := (if_pos hc).symm.trans h
    cases h
    exact x_wid (k2 := k + 5) (n2 := n + 30) (Nat.add_le_add_left (Nat.le_of_ble_eq_true rfl : 0 ≤ 5) _) (Nat.add_le_add_left (Nat.le_of_ble_eq_true rfl : 0 ≤ 30) _) (x_weak [true, true, true, true, true, false, false] rfl hE)
  · replace h := (if_neg hc).symm.trans h
    refine x_iconst hX dL_law_480 ?_
    cases h

set_option maxRecDepth 100000 in
set_option maxHeartbeats 4000000 in
theorem law_4 {X : Cxt} (hX : Gd X RL cL_law 7 (some .boolean) 40) (hs : SOK (xG X)) (h3 : at_ (xG X) 157 4 1) {b Lx : Nat} {sx : Nat → Int} (hx : SX X b Lx sx) (x4 p1 p2 p3 p4 : Int) (b1 : inb (x4 + 1) Lx) (b2 : inb (x4 + 2) Lx) (b3 : inb (x4 + 3) Lx) (b4 : inb (x4 + 4) Lx) (e1 : sx (ix (x4 + 1)) = p1) (e2 : sx (ix (x4 + 2)) = p2) (e3 : sx (ix (x4 + 3)) = p3) (e4 : sx (ix (x4 + 4)) = p4) {k n : Nat} (hk : k + 5 ≤ (xR X).cells ∧ n + 30 ≤ (xR X).slots) {Q : State → Prop} (M Mr : Mem) (h : L_4 p1 p2 p3 p4 M = some Mr) (hE : V X (k + 5) (n + 30) Q 3147 [some (.ref b), some (vr (xG X) 0), some (vr (xG X) 139), some (vr (xG X) 157), some (vi x4), none, none] [] Mr) : V X k n Q 482 [some (.ref b), some (vr (xG X) 0), some (vr (xG X) 139), some (vr (xG X) 157), some (vi x4), none, none] [] M := by
  unfold L_4 at h
  refine x_aloadn hX dL_law_482 rfl ?_
  refine x_qload hX dL_law_483 rfl ?_
  refine x_iload hX dL_law_484 rfl ?_
  refine x_iconst hX dL_law_486 ?_
  refine x_iadd hX dL_law_487 ?_
  refine x_sld hX hx dL_law_488 b1 e1 ?_
  refine x_aloadn hX dL_law_489 rfl ?_
  obtain ⟨r_1, M_2, er_1, h⟩ := cl2_of h
  refine x_wS (As := [vr (xG X) 0, vi p1, vr (xG X) 157]) (rest := []) hX dL_law_490 (c_L_stock (gk hX) (gl hX) hs h3 p1 M _ _ er_1) kL_stock w_1085 rfl rfl rfl (Nat.le_of_ble_eq_true rfl) ⟨Nat.le_trans (Nat.add_le_add_left (Nat.le_of_ble_eq_true rfl : 1 ≤ 5) _) hk.1, Nat.le_trans (Nat.add_le_add_left (Nat.le_of_ble_eq_true rfl : 6 ≤ 30) _) hk.2⟩ ?_
  show V X (k + 1) (n + 6) Q 493 [some (.ref b), some (vr (xG X) 0), some (vr (xG X) 139), some (vr (xG X) 157), some (vi x4), none, none] [vi r_1] M_2
  refine x_istore (ls' := [some (.ref b), some (vr (xG X) 0), some (vr (xG X) 139), some (vr (xG X) 157), some (vi x4), some (vi r_1), none]) hX dL_law_493 rfl rfl rfl ?_
  refine x_aloadn hX dL_law_495 rfl ?_
  refine x_qload hX dL_law_496 rfl ?_
  refine x_iload hX dL_law_497 rfl ?_
  refine x_iconst hX dL_law_499 ?_
  refine x_iadd hX dL_law_500 ?_
  refine x_sld hX hx dL_law_501 b1 e1 ?_
  obtain ⟨r_3, M_4, er_3, h⟩ := cl2_of h
  refine x_callVi (t := 11) (As := [vi p1]) (rest := []) hX dL_law_502 (c_X12_stock (gk hX) (gl hX) hs p1 M_2 _ _ er_3) kX12_stock vX12_stock w_1762 (st139 hs) rfl rfl rfl rfl (Nat.le_of_ble_eq_true rfl) ⟨Nat.le_trans (Nat.add_le_add_left (Nat.le_of_ble_eq_true rfl : 1 ≤ 5) _) hk.1, Nat.le_trans (Nat.add_le_add_left (Nat.le_of_ble_eq_true rfl : 6 ≤ 30) _) hk.2⟩ ?_
  refine x_istore (ls' := [some (.ref b), some (vr (xG X) 0), some (vr (xG X) 139), some (vr (xG X) 157), some (vi x4), some (vi r_1), some (vi r_3)]) hX dL_law_505 rfl rfl rfl ?_
  refine x_aloadn hX dL_law_507 rfl ?_
  obtain ⟨r_5, er_5, h⟩ := cl1_of h
  refine x_callVi (t := 11) (As := []) (rest := []) hX dL_law_508 (c_X12_thrown (gk hX) (gl hX) hs  M_4 _ er_5) kX12_thrown vX12_thrown w_1727 (st139 hs) rfl rfl rfl rfl (Nat.le_of_ble_eq_true rfl) ⟨Nat.le_trans (Nat.add_le_add_left (Nat.le_of_ble_eq_true rfl : 1 ≤ 5) _) hk.1, Nat.le_trans (Nat.add_le_add_left (Nat.le_of_ble_eq_true rfl : 6 ≤ 30) _) hk.2⟩ ?_
  refine x_iload hX dL_law_511 rfl ?_
  refine x_icmp_eq (tgt := 518) hX dL_law_513 (by decide) rfl rfl (fun hc => ?_) (fun hc => ?_)
  · replace h := (if_pos hc).symm.trans h
    refine x_iload hX dL_law_518 rfl ?_
    refine x_if_ne (tgt := 535) hX dL_law_520 (by decide) rfl (fun hc => ?_) (fun hc => ?_)
    · replace h := (if_pos hc).symm.trans h
      refine x_aloadn hX dL_law_523 rfl ?_
      refine x_iconst hX dL_law_524 ?_
      refine x_lald hX dL_law_525 h3 inc_0_1 ixc_0 ?_
      refine x_iload hX dL_law_526 rfl ?_
      refine x_i2l hX dL_law_528 ?_
      refine x_lcmp hX dL_law_529 ?_
      refine x_if_eq (tgt := 535) hX dL_law_530 (by decide) rfl (fun hc => ?_) (fun hc => ?_)
      · replace h := (if_pos hc).symm.trans h
        refine x_goto (tgt := 3147) hX dL_law_535 (by decide) ?_
        cases h
        exact x_wid (k2 := k + 5) (n2 := n + 30) (Nat.add_le_add_left (Nat.le_of_ble_eq_true rfl : 1 ≤ 5) _) (Nat.add_le_add_left (Nat.le_of_ble_eq_true rfl : 6 ≤ 30) _) (x_weak [true, true, true, true, true, false, false] rfl hE)
      · replace h := (if_neg hc).symm.trans h
        refine x_iconst hX dL_law_533 ?_
        cases h
    · replace h := (if_neg hc).symm.trans h
      refine x_goto (tgt := 3147) hX dL_law_535 (by decide) ?_
      cases h
      exact x_wid (k2 := k + 5) (n2 := n + 30) (Nat.add_le_add_left (Nat.le_of_ble_eq_true rfl : 1 ≤ 5) _) (Nat.add_le_add_left (Nat.le_of_ble_eq_true rfl : 6 ≤ 30) _) (x_weak [true, true, true, true, true, false, false] rfl hE)
  · replace h := (if_neg hc).symm.trans h
    refine x_iconst hX dL_law_516 ?_
    cases h

set_option maxRecDepth 100000 in
set_option maxHeartbeats 4000000 in
theorem law_5 {X : Cxt} (hX : Gd X RL cL_law 7 (some .boolean) 40) (hs : SOK (xG X)) (h3 : at_ (xG X) 157 4 1) {b Lx : Nat} {sx : Nat → Int} (hx : SX X b Lx sx) (x4 p1 p2 p3 p4 : Int) (b1 : inb (x4 + 1) Lx) (b2 : inb (x4 + 2) Lx) (b3 : inb (x4 + 3) Lx) (b4 : inb (x4 + 4) Lx) (e1 : sx (ix (x4 + 1)) = p1) (e2 : sx (ix (x4 + 2)) = p2) (e3 : sx (ix (x4 + 3)) = p3) (e4 : sx (ix (x4 + 4)) = p4) {k n : Nat} (hk : k + 5 ≤ (xR X).cells ∧ n + 30 ≤ (xR X).slots) {Q : State → Prop} (M Mr : Mem) (h : L_5 p1 p2 p3 p4 M = some Mr) (hE : V X (k + 5) (n + 30) Q 3147 [some (.ref b), some (vr (xG X) 0), some (vr (xG X) 139), some (vr (xG X) 157), some (vi x4), none, none] [] Mr) : V X k n Q 538 [some (.ref b), some (vr (xG X) 0), some (vr (xG X) 139), some (vr (xG X) 157), some (vi x4), none, none] [] M := by
  unfold L_5 at h
  refine x_aloadn hX dL_law_538 rfl ?_
  refine x_qload hX dL_law_539 rfl ?_
  refine x_iload hX dL_law_540 rfl ?_
  refine x_iconst hX dL_law_542 ?_
  refine x_iadd hX dL_law_543 ?_
  refine x_sld hX hx dL_law_544 b1 e1 ?_
  refine x_qload hX dL_law_545 rfl ?_
  refine x_iload hX dL_law_546 rfl ?_
  refine x_iconst hX dL_law_548 ?_
  refine x_iadd hX dL_law_549 ?_
  refine x_sld hX hx dL_law_550 b2 e2 ?_
  refine x_aloadn hX dL_law_551 rfl ?_
  obtain ⟨r_1, M_2, er_1, h⟩ := cl2_of h
  refine x_wS (As := [vr (xG X) 0, vi p1, vi p2, vr (xG X) 157]) (rest := []) hX dL_law_552 (c_L_restock (gk hX) (gl hX) hs h3 p1 p2 M _ _ er_1) kL_restock w_1096 rfl rfl rfl (Nat.le_of_ble_eq_true rfl) ⟨Nat.le_trans (Nat.add_le_add_left (Nat.le_of_ble_eq_true rfl : 2 ≤ 5) _) hk.1, Nat.le_trans (Nat.add_le_add_left (Nat.le_of_ble_eq_true rfl : 12 ≤ 30) _) hk.2⟩ ?_
  show V X (k + 2) (n + 12) Q 555 [some (.ref b), some (vr (xG X) 0), some (vr (xG X) 139), some (vr (xG X) 157), some (vi x4), none, none] [vi r_1] M_2
  refine x_istore (ls' := [some (.ref b), some (vr (xG X) 0), some (vr (xG X) 139), some (vr (xG X) 157), some (vi x4), some (vi r_1), none]) hX dL_law_555 rfl rfl rfl ?_
  refine x_aloadn hX dL_law_557 rfl ?_
  refine x_qload hX dL_law_558 rfl ?_
  refine x_iload hX dL_law_559 rfl ?_
  refine x_iconst hX dL_law_561 ?_
  refine x_iadd hX dL_law_562 ?_
  refine x_sld hX hx dL_law_563 b1 e1 ?_
  refine x_qload hX dL_law_564 rfl ?_
  refine x_iload hX dL_law_565 rfl ?_
  refine x_iconst hX dL_law_567 ?_
  refine x_iadd hX dL_law_568 ?_
  refine x_sld hX hx dL_law_569 b2 e2 ?_
  obtain ⟨r_3, M_4, er_3, h⟩ := cl2_of h
  refine x_callVi (t := 11) (As := [vi p1, vi p2]) (rest := []) hX dL_law_570 (c_X12_restock (gk hX) (gl hX) hs p1 p2 M_2 _ _ er_3) kX12_restock vX12_restock w_1774 (st139 hs) rfl rfl rfl rfl (Nat.le_of_ble_eq_true rfl) ⟨Nat.le_trans (Nat.add_le_add_left (Nat.le_of_ble_eq_true rfl : 2 ≤ 5) _) hk.1, Nat.le_trans (Nat.add_le_add_left (Nat.le_of_ble_eq_true rfl : 12 ≤ 30) _) hk.2⟩ ?_
  refine x_istore (ls' := [some (.ref b), some (vr (xG X) 0), some (vr (xG X) 139), some (vr (xG X) 157), some (vi x4), some (vi r_1), some (vi r_3)]) hX dL_law_573 rfl rfl rfl ?_
  refine x_aloadn hX dL_law_575 rfl ?_
  obtain ⟨r_5, er_5, h⟩ := cl1_of h
  refine x_callVi (t := 11) (As := []) (rest := []) hX dL_law_576 (c_X12_thrown (gk hX) (gl hX) hs  M_4 _ er_5) kX12_thrown vX12_thrown w_1727 (st139 hs) rfl rfl rfl rfl (Nat.le_of_ble_eq_true rfl) ⟨Nat.le_trans (Nat.add_le_add_left (Nat.le_of_ble_eq_true rfl : 2 ≤ 5) _) hk.1, Nat.le_trans (Nat.add_le_add_left (Nat.le_of_ble_eq_true rfl : 12 ≤ 30) _) hk.2⟩ ?_
  refine x_iload hX dL_law_579 rfl ?_
  refine x_icmp_eq (tgt := 586) hX dL_law_581 (by decide) rfl rfl (fun hc => ?_) (fun hc => ?_)
  · replace h := (if_pos hc).symm.trans h
    refine x_iload hX dL_law_586 rfl ?_
    refine x_if_ne (tgt := 603) hX dL_law_588 (by decide) rfl (fun hc => ?_) (fun hc => ?_)
    · replace h := (if_pos hc).symm.trans h
      refine x_aloadn hX dL_law_591 rfl ?_
      refine x_iconst hX dL_law_592 ?_
      refine x_lald hX dL_law_593 h3 inc_0_1 ixc_0 ?_
      refine x_iload hX dL_law_594 rfl ?_
      refine x_i2l hX dL_law_596 ?_
      refine x_lcmp hX dL_law_597 ?_
      refine x_if_eq (tgt := 603) hX dL_law_598 (by decide) rfl (fun hc => ?_) (fun hc => ?_)
      · replace h := (if_pos hc).symm.trans h
        refine x_goto (tgt := 3147) hX dL_law_603 (by decide) ?_
        cases h
        exact x_wid (k2 := k + 5) (n2 := n + 30) (Nat.add_le_add_left (Nat.le_of_ble_eq_true rfl : 2 ≤ 5) _) (Nat.add_le_add_left (Nat.le_of_ble_eq_true rfl : 12 ≤ 30) _) (x_weak [true, true, true, true, true, false, false] rfl hE)
      · replace h := (if_neg hc).symm.trans h
        refine x_iconst hX dL_law_601 ?_
        cases h
    · replace h := (if_neg hc).symm.trans h
      refine x_goto (tgt := 3147) hX dL_law_603 (by decide) ?_
      cases h
      exact x_wid (k2 := k + 5) (n2 := n + 30) (Nat.add_le_add_left (Nat.le_of_ble_eq_true rfl : 2 ≤ 5) _) (Nat.add_le_add_left (Nat.le_of_ble_eq_true rfl : 12 ≤ 30) _) (x_weak [true, true, true, true, true, false, false] rfl hE)
  · replace h := (if_neg hc).symm.trans h
    refine x_iconst hX dL_law_584 ?_
    cases h

set_option maxRecDepth 100000 in
set_option maxHeartbeats 4000000 in
theorem law_6 {X : Cxt} (hX : Gd X RL cL_law 7 (some .boolean) 40) (hs : SOK (xG X)) (h3 : at_ (xG X) 157 4 1) {b Lx : Nat} {sx : Nat → Int} (hx : SX X b Lx sx) (x4 p1 p2 p3 p4 : Int) (b1 : inb (x4 + 1) Lx) (b2 : inb (x4 + 2) Lx) (b3 : inb (x4 + 3) Lx) (b4 : inb (x4 + 4) Lx) (e1 : sx (ix (x4 + 1)) = p1) (e2 : sx (ix (x4 + 2)) = p2) (e3 : sx (ix (x4 + 3)) = p3) (e4 : sx (ix (x4 + 4)) = p4) {k n : Nat} (hk : k + 5 ≤ (xR X).cells ∧ n + 30 ≤ (xR X).slots) {Q : State → Prop} (M Mr : Mem) (h : L_6 p1 p2 p3 p4 M = some Mr) (hE : V X (k + 5) (n + 30) Q 3147 [some (.ref b), some (vr (xG X) 0), some (vr (xG X) 139), some (vr (xG X) 157), some (vi x4), none, none] [] Mr) : V X k n Q 606 [some (.ref b), some (vr (xG X) 0), some (vr (xG X) 139), some (vr (xG X) 157), some (vi x4), none, none] [] M := by
  unfold L_6 at h
  refine x_aloadn hX dL_law_606 rfl ?_
  refine x_qload hX dL_law_607 rfl ?_
  refine x_iload hX dL_law_608 rfl ?_
  refine x_iconst hX dL_law_610 ?_
  refine x_iadd hX dL_law_611 ?_
  refine x_sld hX hx dL_law_612 b1 e1 ?_
  refine x_aloadn hX dL_law_613 rfl ?_
  obtain ⟨r_1, M_2, er_1, h⟩ := cl2_of h
  refine x_wS (As := [vr (xG X) 0, vi p1, vr (xG X) 157]) (rest := []) hX dL_law_614 (c_L_addOrder (gk hX) (gl hX) hs h3 p1 M _ _ er_1) kL_addOrder w_1103 rfl rfl rfl (Nat.le_of_ble_eq_true rfl) ⟨Nat.le_trans (Nat.add_le_add_left (Nat.le_of_ble_eq_true rfl : 2 ≤ 5) _) hk.1, Nat.le_trans (Nat.add_le_add_left (Nat.le_of_ble_eq_true rfl : 12 ≤ 30) _) hk.2⟩ ?_
  show V X (k + 2) (n + 12) Q 617 [some (.ref b), some (vr (xG X) 0), some (vr (xG X) 139), some (vr (xG X) 157), some (vi x4), none, none] [vi r_1] M_2
  refine x_istore (ls' := [some (.ref b), some (vr (xG X) 0), some (vr (xG X) 139), some (vr (xG X) 157), some (vi x4), some (vi r_1), none]) hX dL_law_617 rfl rfl rfl ?_
  refine x_aloadn hX dL_law_619 rfl ?_
  refine x_qload hX dL_law_620 rfl ?_
  refine x_iload hX dL_law_621 rfl ?_
  refine x_iconst hX dL_law_623 ?_
  refine x_iadd hX dL_law_624 ?_
  refine x_sld hX hx dL_law_625 b1 e1 ?_
  obtain ⟨r_3, M_4, er_3, h⟩ := cl2_of h
  refine x_callVi (t := 11) (As := [vi p1]) (rest := []) hX dL_law_626 (c_X12_addOrder (gk hX) (gl hX) hs p1 M_2 _ _ er_3) kX12_addOrder vX12_addOrder w_1778 (st139 hs) rfl rfl rfl rfl (Nat.le_of_ble_eq_true rfl) ⟨Nat.le_trans (Nat.add_le_add_left (Nat.le_of_ble_eq_true rfl : 2 ≤ 5) _) hk.1, Nat.le_trans (Nat.add_le_add_left (Nat.le_of_ble_eq_true rfl : 12 ≤ 30) _) hk.2⟩ ?_
  refine x_istore (ls' := [some (.ref b), some (vr (xG X) 0), some (vr (xG X) 139), some (vr (xG X) 157), some (vi x4), some (vi r_1), some (vi r_3)]) hX dL_law_629 rfl rfl rfl ?_
  refine x_aloadn hX dL_law_631 rfl ?_
  obtain ⟨r_5, er_5, h⟩ := cl1_of h
  refine x_callVi (t := 11) (As := []) (rest := []) hX dL_law_632 (c_X12_thrown (gk hX) (gl hX) hs  M_4 _ er_5) kX12_thrown vX12_thrown w_1727 (st139 hs) rfl rfl rfl rfl (Nat.le_of_ble_eq_true rfl) ⟨Nat.le_trans (Nat.add_le_add_left (Nat.le_of_ble_eq_true rfl : 2 ≤ 5) _) hk.1, Nat.le_trans (Nat.add_le_add_left (Nat.le_of_ble_eq_true rfl : 12 ≤ 30) _) hk.2⟩ ?_
  refine x_iload hX dL_law_635 rfl ?_
  refine x_icmp_eq (tgt := 642) hX dL_law_637 (by decide) rfl rfl (fun hc => ?_) (fun hc => ?_)
  · replace h := (if_pos hc).symm.trans h
    refine x_iload hX dL_law_642 rfl ?_
    refine x_if_ne (tgt := 659) hX dL_law_644 (by decide) rfl (fun hc => ?_) (fun hc => ?_)
    · replace h := (if_pos hc).symm.trans h
      refine x_aloadn hX dL_law_647 rfl ?_
      refine x_iconst hX dL_law_648 ?_
      refine x_lald hX dL_law_649 h3 inc_0_1 ixc_0 ?_
      refine x_iload hX dL_law_650 rfl ?_
      refine x_i2l hX dL_law_652 ?_
      refine x_lcmp hX dL_law_653 ?_
      refine x_if_eq (tgt := 659) hX dL_law_654 (by decide) rfl (fun hc => ?_) (fun hc => ?_)
      · replace h := (if_pos hc).symm.trans h
        refine x_goto (tgt := 3147) hX dL_law_659 (by decide) ?_
        cases h
        exact x_wid (k2 := k + 5) (n2 := n + 30) (Nat.add_le_add_left (Nat.le_of_ble_eq_true rfl : 2 ≤ 5) _) (Nat.add_le_add_left (Nat.le_of_ble_eq_true rfl : 12 ≤ 30) _) (x_weak [true, true, true, true, true, false, false] rfl hE)
      · replace h := (if_neg hc).symm.trans h
        refine x_iconst hX dL_law_657 ?_
        cases h
    · replace h := (if_neg hc).symm.trans h
      refine x_goto (tgt := 3147) hX dL_law_659 (by decide) ?_
      cases h
      exact x_wid (k2 := k + 5) (n2 := n + 30) (Nat.add_le_add_left (Nat.le_of_ble_eq_true rfl : 2 ≤ 5) _) (Nat.add_le_add_left (Nat.le_of_ble_eq_true rfl : 12 ≤ 30) _) (x_weak [true, true, true, true, true, false, false] rfl hE)
  · replace h := (if_neg hc).symm.trans h
    refine x_iconst hX dL_law_640 ?_
    cases h

set_option maxRecDepth 100000 in
set_option maxHeartbeats 4000000 in
theorem law_7 {X : Cxt} (hX : Gd X RL cL_law 7 (some .boolean) 40) (hs : SOK (xG X)) (h3 : at_ (xG X) 157 4 1) {b Lx : Nat} {sx : Nat → Int} (hx : SX X b Lx sx) (x4 p1 p2 p3 p4 : Int) (b1 : inb (x4 + 1) Lx) (b2 : inb (x4 + 2) Lx) (b3 : inb (x4 + 3) Lx) (b4 : inb (x4 + 4) Lx) (e1 : sx (ix (x4 + 1)) = p1) (e2 : sx (ix (x4 + 2)) = p2) (e3 : sx (ix (x4 + 3)) = p3) (e4 : sx (ix (x4 + 4)) = p4) {k n : Nat} (hk : k + 5 ≤ (xR X).cells ∧ n + 30 ≤ (xR X).slots) {Q : State → Prop} (M Mr : Mem) (h : L_7 p1 p2 p3 p4 M = some Mr) (hE : V X (k + 5) (n + 30) Q 3147 [some (.ref b), some (vr (xG X) 0), some (vr (xG X) 139), some (vr (xG X) 157), some (vi x4), none, none] [] Mr) : V X k n Q 662 [some (.ref b), some (vr (xG X) 0), some (vr (xG X) 139), some (vr (xG X) 157), some (vi x4), none, none] [] M := by
  unfold L_7 at h
  refine x_aloadn hX dL_law_662 rfl ?_
  refine x_qload hX dL_law_663 rfl ?_
  refine x_iload hX dL_law_664 rfl ?_
  refine x_iconst hX dL_law_666 ?_
  refine x_iadd hX dL_law_667 ?_
  refine x_sld hX hx dL_law_668 b1 e1 ?_
  refine x_qload hX dL_law_669 rfl ?_
  refine x_iload hX dL_law_670 rfl ?_
  refine x_iconst hX dL_law_672 ?_
  refine x_iadd hX dL_law_673 ?_
  refine x_sld hX hx dL_law_674 b2 e2 ?_
  refine x_qload hX dL_law_675 rfl ?_
  refine x_iload hX dL_law_676 rfl ?_
  refine x_iconst hX dL_law_678 ?_
  refine x_iadd hX dL_law_679 ?_
  refine x_sld hX hx dL_law_680 b3 e3 ?_
  refine x_aloadn hX dL_law_681 rfl ?_
  obtain ⟨r_1, M_2, er_1, h⟩ := cl2_of h
  refine x_wS (As := [vr (xG X) 0, vi p1, vi p2, vi p3, vr (xG X) 157]) (rest := []) hX dL_law_682 (c_L_addLine (gk hX) (gl hX) hs h3 p1 p2 p3 M _ _ er_1) kL_addLine w_1116 rfl rfl rfl (Nat.le_of_ble_eq_true rfl) ⟨Nat.le_trans (Nat.add_le_add_left (Nat.le_of_ble_eq_true rfl : 4 ≤ 5) _) hk.1, Nat.le_trans (Nat.add_le_add_left (Nat.le_of_ble_eq_true rfl : 24 ≤ 30) _) hk.2⟩ ?_
  show V X (k + 4) (n + 24) Q 685 [some (.ref b), some (vr (xG X) 0), some (vr (xG X) 139), some (vr (xG X) 157), some (vi x4), none, none] [vi r_1] M_2
  refine x_istore (ls' := [some (.ref b), some (vr (xG X) 0), some (vr (xG X) 139), some (vr (xG X) 157), some (vi x4), some (vi r_1), none]) hX dL_law_685 rfl rfl rfl ?_
  refine x_aloadn hX dL_law_687 rfl ?_
  refine x_qload hX dL_law_688 rfl ?_
  refine x_iload hX dL_law_689 rfl ?_
  refine x_iconst hX dL_law_691 ?_
  refine x_iadd hX dL_law_692 ?_
  refine x_sld hX hx dL_law_693 b1 e1 ?_
  refine x_qload hX dL_law_694 rfl ?_
  refine x_iload hX dL_law_695 rfl ?_
  refine x_iconst hX dL_law_697 ?_
  refine x_iadd hX dL_law_698 ?_
  refine x_sld hX hx dL_law_699 b2 e2 ?_
  refine x_qload hX dL_law_700 rfl ?_
  refine x_iload hX dL_law_701 rfl ?_
  refine x_iconst hX dL_law_703 ?_
  refine x_iadd hX dL_law_704 ?_
  refine x_sld hX hx dL_law_705 b3 e3 ?_
  obtain ⟨r_3, M_4, er_3, h⟩ := cl2_of h
  refine x_callVi (t := 11) (As := [vi p1, vi p2, vi p3]) (rest := []) hX dL_law_706 (c_X12_addLine (gk hX) (gl hX) hs p1 p2 p3 M_2 _ _ er_3) kX12_addLine vX12_addLine w_1789 (st139 hs) rfl rfl rfl rfl (Nat.le_of_ble_eq_true rfl) ⟨Nat.le_trans (Nat.add_le_add_left (Nat.le_of_ble_eq_true rfl : 4 ≤ 5) _) hk.1, Nat.le_trans (Nat.add_le_add_left (Nat.le_of_ble_eq_true rfl : 24 ≤ 30) _) hk.2⟩ ?_
  refine x_istore (ls' := [some (.ref b), some (vr (xG X) 0), some (vr (xG X) 139), some (vr (xG X) 157), some (vi x4), some (vi r_1), some (vi r_3)]) hX dL_law_709 rfl rfl rfl ?_
  refine x_aloadn hX dL_law_711 rfl ?_
  obtain ⟨r_5, er_5, h⟩ := cl1_of h
  refine x_callVi (t := 11) (As := []) (rest := []) hX dL_law_712 (c_X12_thrown (gk hX) (gl hX) hs  M_4 _ er_5) kX12_thrown vX12_thrown w_1727 (st139 hs) rfl rfl rfl rfl (Nat.le_of_ble_eq_true rfl) ⟨Nat.le_trans (Nat.add_le_add_left (Nat.le_of_ble_eq_true rfl : 4 ≤ 5) _) hk.1, Nat.le_trans (Nat.add_le_add_left (Nat.le_of_ble_eq_true rfl : 24 ≤ 30) _) hk.2⟩ ?_
  refine x_iload hX dL_law_715 rfl ?_
  refine x_icmp_eq (tgt := 722) hX dL_law_717 (by decide) rfl rfl (fun hc => ?_) (fun hc => ?_)
  · replace h := (if_pos hc).symm.trans h
    refine x_iload hX dL_law_722 rfl ?_
    refine x_if_ne (tgt := 739) hX dL_law_724 (by decide) rfl (fun hc => ?_) (fun hc => ?_)
    · replace h := (if_pos hc).symm.trans h
      refine x_aloadn hX dL_law_727 rfl ?_
      refine x_iconst hX dL_law_728 ?_
      refine x_lald hX dL_law_729 h3 inc_0_1 ixc_0 ?_
      refine x_iload hX dL_law_730 rfl ?_
      refine x_i2l hX dL_law_732 ?_
      refine x_lcmp hX dL_law_733 ?_
      refine x_if_eq (tgt := 739) hX dL_law_734 (by decide) rfl (fun hc => ?_) (fun hc => ?_)
      · replace h := (if_pos hc).symm.trans h
        refine x_goto (tgt := 3147) hX dL_law_739 (by decide) ?_
        cases h
        exact x_wid (k2 := k + 5) (n2 := n + 30) (Nat.add_le_add_left (Nat.le_of_ble_eq_true rfl : 4 ≤ 5) _) (Nat.add_le_add_left (Nat.le_of_ble_eq_true rfl : 24 ≤ 30) _) (x_weak [true, true, true, true, true, false, false] rfl hE)
      · replace h := (if_neg hc).symm.trans h
        refine x_iconst hX dL_law_737 ?_
        cases h
    · replace h := (if_neg hc).symm.trans h
      refine x_goto (tgt := 3147) hX dL_law_739 (by decide) ?_
      cases h
      exact x_wid (k2 := k + 5) (n2 := n + 30) (Nat.add_le_add_left (Nat.le_of_ble_eq_true rfl : 4 ≤ 5) _) (Nat.add_le_add_left (Nat.le_of_ble_eq_true rfl : 24 ≤ 30) _) (x_weak [true, true, true, true, true, false, false] rfl hE)
  · replace h := (if_neg hc).symm.trans h
    refine x_iconst hX dL_law_720 ?_
    cases h

set_option maxRecDepth 100000 in
set_option maxHeartbeats 4000000 in
theorem law_8 {X : Cxt} (hX : Gd X RL cL_law 7 (some .boolean) 40) (hs : SOK (xG X)) (h3 : at_ (xG X) 157 4 1) {b Lx : Nat} {sx : Nat → Int} (hx : SX X b Lx sx) (x4 p1 p2 p3 p4 : Int) (b1 : inb (x4 + 1) Lx) (b2 : inb (x4 + 2) Lx) (b3 : inb (x4 + 3) Lx) (b4 : inb (x4 + 4) Lx) (e1 : sx (ix (x4 + 1)) = p1) (e2 : sx (ix (x4 + 2)) = p2) (e3 : sx (ix (x4 + 3)) = p3) (e4 : sx (ix (x4 + 4)) = p4) {k n : Nat} (hk : k + 5 ≤ (xR X).cells ∧ n + 30 ≤ (xR X).slots) {Q : State → Prop} (M Mr : Mem) (h : L_8 p1 p2 p3 p4 M = some Mr) (hE : V X (k + 5) (n + 30) Q 3147 [some (.ref b), some (vr (xG X) 0), some (vr (xG X) 139), some (vr (xG X) 157), some (vi x4), none, none] [] Mr) : V X k n Q 742 [some (.ref b), some (vr (xG X) 0), some (vr (xG X) 139), some (vr (xG X) 157), some (vi x4), none, none] [] M := by
  unfold L_8 at h
  refine x_aloadn hX dL_law_742 rfl ?_
  obtain ⟨r_1, er_1, h⟩ := cl1_of h
  refine x_callVi (t := 10) (As := []) (rest := []) hX dL_law_743 (c_X11_orderCount (gk hX) (gl hX) hs  M _ er_1) kX11_orderCount vX11_orderCount w_592 (st0 hs) rfl rfl rfl rfl (Nat.le_of_ble_eq_true rfl) ⟨Nat.le_trans (Nat.add_le_add_left (Nat.le_of_ble_eq_true rfl : 0 ≤ 5) _) hk.1, Nat.le_trans (Nat.add_le_add_left (Nat.le_of_ble_eq_true rfl : 0 ≤ 30) _) hk.2⟩ ?_
  refine x_aloadn hX dL_law_746 rfl ?_
  obtain ⟨r_3, M_4, er_3, h⟩ := cl2_of h
  refine x_callVi (t := 11) (As := []) (rest := [vi r_1]) hX dL_law_747 (c_X12_orderCount (gk hX) (gl hX) hs  M _ _ er_3) kX12_orderCount vX12_orderCount w_1812 (st139 hs) rfl rfl rfl rfl (Nat.le_of_ble_eq_true rfl) ⟨Nat.le_trans (Nat.add_le_add_left (Nat.le_of_ble_eq_true rfl : 0 ≤ 5) _) hk.1, Nat.le_trans (Nat.add_le_add_left (Nat.le_of_ble_eq_true rfl : 0 ≤ 30) _) hk.2⟩ ?_
  refine x_icmp_eq (tgt := 3147) hX dL_law_750 (by decide) rfl rfl (fun hc => ?_) (fun hc => ?_)
  · replace h := (if_pos hc).symm.trans h
    cases h
    exact x_wid (k2 := k + 5) (n2 := n + 30) (Nat.add_le_add_left (Nat.le_of_ble_eq_true rfl : 0 ≤ 5) _) (Nat.add_le_add_left (Nat.le_of_ble_eq_true rfl : 0 ≤ 30) _) (x_weak [true, true, true, true, true, false, false] rfl hE)
  · replace h := (if_neg hc).symm.trans h
    refine x_iconst hX dL_law_753 ?_
    cases h

set_option maxRecDepth 100000 in
set_option maxHeartbeats 4000000 in
theorem law_9 {X : Cxt} (hX : Gd X RL cL_law 7 (some .boolean) 40) (hs : SOK (xG X)) (h3 : at_ (xG X) 157 4 1) {b Lx : Nat} {sx : Nat → Int} (hx : SX X b Lx sx) (x4 p1 p2 p3 p4 : Int) (b1 : inb (x4 + 1) Lx) (b2 : inb (x4 + 2) Lx) (b3 : inb (x4 + 3) Lx) (b4 : inb (x4 + 4) Lx) (e1 : sx (ix (x4 + 1)) = p1) (e2 : sx (ix (x4 + 2)) = p2) (e3 : sx (ix (x4 + 3)) = p3) (e4 : sx (ix (x4 + 4)) = p4) {k n : Nat} (hk : k + 5 ≤ (xR X).cells ∧ n + 30 ≤ (xR X).slots) {Q : State → Prop} (M Mr : Mem) (h : L_9 p1 p2 p3 p4 M = some Mr) (hE : V X (k + 5) (n + 30) Q 3147 [some (.ref b), some (vr (xG X) 0), some (vr (xG X) 139), some (vr (xG X) 157), some (vi x4), none, none] [] Mr) : V X k n Q 755 [some (.ref b), some (vr (xG X) 0), some (vr (xG X) 139), some (vr (xG X) 157), some (vi x4), none, none] [] M := by
  unfold L_9 at h
  refine x_aloadn hX dL_law_755 rfl ?_
  refine x_qload hX dL_law_756 rfl ?_
  refine x_iload hX dL_law_757 rfl ?_
  refine x_iconst hX dL_law_759 ?_
  refine x_iadd hX dL_law_760 ?_
  refine x_sld hX hx dL_law_761 b1 e1 ?_
  refine x_aloadn hX dL_law_762 rfl ?_
  obtain ⟨r_1, M_2, er_1, h⟩ := cl2_of h
  refine x_wS (As := [vr (xG X) 0, vi p1, vr (xG X) 157]) (rest := []) hX dL_law_763 (c_L_orderState (gk hX) (gl hX) hs h3 p1 M _ _ er_1) kL_orderState w_1130 rfl rfl rfl (Nat.le_of_ble_eq_true rfl) ⟨Nat.le_trans (Nat.add_le_add_left (Nat.le_of_ble_eq_true rfl : 1 ≤ 5) _) hk.1, Nat.le_trans (Nat.add_le_add_left (Nat.le_of_ble_eq_true rfl : 6 ≤ 30) _) hk.2⟩ ?_
  show V X (k + 1) (n + 6) Q 766 [some (.ref b), some (vr (xG X) 0), some (vr (xG X) 139), some (vr (xG X) 157), some (vi x4), none, none] [vi r_1] M_2
  refine x_istore (ls' := [some (.ref b), some (vr (xG X) 0), some (vr (xG X) 139), some (vr (xG X) 157), some (vi x4), some (vi r_1), none]) hX dL_law_766 rfl rfl rfl ?_
  refine x_aloadn hX dL_law_768 rfl ?_
  refine x_qload hX dL_law_769 rfl ?_
  refine x_iload hX dL_law_770 rfl ?_
  refine x_iconst hX dL_law_772 ?_
  refine x_iadd hX dL_law_773 ?_
  refine x_sld hX hx dL_law_774 b1 e1 ?_
  obtain ⟨r_3, M_4, er_3, h⟩ := cl2_of h
  refine x_callVi (t := 11) (As := [vi p1]) (rest := []) hX dL_law_775 (c_X12_orderState (gk hX) (gl hX) hs p1 M_2 _ _ er_3) kX12_orderState vX12_orderState w_1816 (st139 hs) rfl rfl rfl rfl (Nat.le_of_ble_eq_true rfl) ⟨Nat.le_trans (Nat.add_le_add_left (Nat.le_of_ble_eq_true rfl : 1 ≤ 5) _) hk.1, Nat.le_trans (Nat.add_le_add_left (Nat.le_of_ble_eq_true rfl : 6 ≤ 30) _) hk.2⟩ ?_
  refine x_istore (ls' := [some (.ref b), some (vr (xG X) 0), some (vr (xG X) 139), some (vr (xG X) 157), some (vi x4), some (vi r_1), some (vi r_3)]) hX dL_law_778 rfl rfl rfl ?_
  refine x_aloadn hX dL_law_780 rfl ?_
  obtain ⟨r_5, er_5, h⟩ := cl1_of h
  refine x_callVi (t := 11) (As := []) (rest := []) hX dL_law_781 (c_X12_thrown (gk hX) (gl hX) hs  M_4 _ er_5) kX12_thrown vX12_thrown w_1727 (st139 hs) rfl rfl rfl rfl (Nat.le_of_ble_eq_true rfl) ⟨Nat.le_trans (Nat.add_le_add_left (Nat.le_of_ble_eq_true rfl : 1 ≤ 5) _) hk.1, Nat.le_trans (Nat.add_le_add_left (Nat.le_of_ble_eq_true rfl : 6 ≤ 30) _) hk.2⟩ ?_
  refine x_iload hX dL_law_784 rfl ?_
  refine x_icmp_eq (tgt := 791) hX dL_law_786 (by decide) rfl rfl (fun hc => ?_) (fun hc => ?_)
  · replace h := (if_pos hc).symm.trans h
    refine x_iload hX dL_law_791 rfl ?_
    refine x_if_ne (tgt := 808) hX dL_law_793 (by decide) rfl (fun hc => ?_) (fun hc => ?_)
    · replace h := (if_pos hc).symm.trans h
      refine x_aloadn hX dL_law_796 rfl ?_
      refine x_iconst hX dL_law_797 ?_
      refine x_lald hX dL_law_798 h3 inc_0_1 ixc_0 ?_
      refine x_iload hX dL_law_799 rfl ?_
      refine x_i2l hX dL_law_801 ?_
      refine x_lcmp hX dL_law_802 ?_
      refine x_if_eq (tgt := 808) hX dL_law_803 (by decide) rfl (fun hc => ?_) (fun hc => ?_)
      · replace h := (if_pos hc).symm.trans h
        refine x_goto (tgt := 3147) hX dL_law_808 (by decide) ?_
        cases h
        exact x_wid (k2 := k + 5) (n2 := n + 30) (Nat.add_le_add_left (Nat.le_of_ble_eq_true rfl : 1 ≤ 5) _) (Nat.add_le_add_left (Nat.le_of_ble_eq_true rfl : 6 ≤ 30) _) (x_weak [true, true, true, true, true, false, false] rfl hE)
      · replace h := (if_neg hc).symm.trans h
        refine x_iconst hX dL_law_806 ?_
        cases h
    · replace h := (if_neg hc).symm.trans h
      refine x_goto (tgt := 3147) hX dL_law_808 (by decide) ?_
      cases h
      exact x_wid (k2 := k + 5) (n2 := n + 30) (Nat.add_le_add_left (Nat.le_of_ble_eq_true rfl : 1 ≤ 5) _) (Nat.add_le_add_left (Nat.le_of_ble_eq_true rfl : 6 ≤ 30) _) (x_weak [true, true, true, true, true, false, false] rfl hE)
  · replace h := (if_neg hc).symm.trans h
    refine x_iconst hX dL_law_789 ?_
    cases h

set_option maxRecDepth 100000 in
set_option maxHeartbeats 4000000 in
theorem law_10 {X : Cxt} (hX : Gd X RL cL_law 7 (some .boolean) 40) (hs : SOK (xG X)) (h3 : at_ (xG X) 157 4 1) {b Lx : Nat} {sx : Nat → Int} (hx : SX X b Lx sx) (x4 p1 p2 p3 p4 : Int) (b1 : inb (x4 + 1) Lx) (b2 : inb (x4 + 2) Lx) (b3 : inb (x4 + 3) Lx) (b4 : inb (x4 + 4) Lx) (e1 : sx (ix (x4 + 1)) = p1) (e2 : sx (ix (x4 + 2)) = p2) (e3 : sx (ix (x4 + 3)) = p3) (e4 : sx (ix (x4 + 4)) = p4) {k n : Nat} (hk : k + 5 ≤ (xR X).cells ∧ n + 30 ≤ (xR X).slots) {Q : State → Prop} (M Mr : Mem) (h : L_10 p1 p2 p3 p4 M = some Mr) (hE : V X (k + 5) (n + 30) Q 3147 [some (.ref b), some (vr (xG X) 0), some (vr (xG X) 139), some (vr (xG X) 157), some (vi x4), none, none] [] Mr) : V X k n Q 811 [some (.ref b), some (vr (xG X) 0), some (vr (xG X) 139), some (vr (xG X) 157), some (vi x4), none, none] [] M := by
  unfold L_10 at h
  refine x_aloadn hX dL_law_811 rfl ?_
  refine x_qload hX dL_law_812 rfl ?_
  refine x_iload hX dL_law_813 rfl ?_
  refine x_iconst hX dL_law_815 ?_
  refine x_iadd hX dL_law_816 ?_
  refine x_sld hX hx dL_law_817 b1 e1 ?_
  refine x_aloadn hX dL_law_818 rfl ?_
  obtain ⟨r_1, M_2, er_1, h⟩ := cl2_of h
  refine x_wS (As := [vr (xG X) 0, vi p1, vr (xG X) 157]) (rest := []) hX dL_law_819 (c_L_lineCount (gk hX) (gl hX) hs h3 p1 M _ _ er_1) kL_lineCount w_1137 rfl rfl rfl (Nat.le_of_ble_eq_true rfl) ⟨Nat.le_trans (Nat.add_le_add_left (Nat.le_of_ble_eq_true rfl : 1 ≤ 5) _) hk.1, Nat.le_trans (Nat.add_le_add_left (Nat.le_of_ble_eq_true rfl : 6 ≤ 30) _) hk.2⟩ ?_
  show V X (k + 1) (n + 6) Q 822 [some (.ref b), some (vr (xG X) 0), some (vr (xG X) 139), some (vr (xG X) 157), some (vi x4), none, none] [vi r_1] M_2
  refine x_istore (ls' := [some (.ref b), some (vr (xG X) 0), some (vr (xG X) 139), some (vr (xG X) 157), some (vi x4), some (vi r_1), none]) hX dL_law_822 rfl rfl rfl ?_
  refine x_aloadn hX dL_law_824 rfl ?_
  refine x_qload hX dL_law_825 rfl ?_
  refine x_iload hX dL_law_826 rfl ?_
  refine x_iconst hX dL_law_828 ?_
  refine x_iadd hX dL_law_829 ?_
  refine x_sld hX hx dL_law_830 b1 e1 ?_
  obtain ⟨r_3, M_4, er_3, h⟩ := cl2_of h
  refine x_callVi (t := 11) (As := [vi p1]) (rest := []) hX dL_law_831 (c_X12_lineCount (gk hX) (gl hX) hs p1 M_2 _ _ er_3) kX12_lineCount vX12_lineCount w_1824 (st139 hs) rfl rfl rfl rfl (Nat.le_of_ble_eq_true rfl) ⟨Nat.le_trans (Nat.add_le_add_left (Nat.le_of_ble_eq_true rfl : 1 ≤ 5) _) hk.1, Nat.le_trans (Nat.add_le_add_left (Nat.le_of_ble_eq_true rfl : 6 ≤ 30) _) hk.2⟩ ?_
  refine x_istore (ls' := [some (.ref b), some (vr (xG X) 0), some (vr (xG X) 139), some (vr (xG X) 157), some (vi x4), some (vi r_1), some (vi r_3)]) hX dL_law_834 rfl rfl rfl ?_
  refine x_aloadn hX dL_law_836 rfl ?_
  obtain ⟨r_5, er_5, h⟩ := cl1_of h
  refine x_callVi (t := 11) (As := []) (rest := []) hX dL_law_837 (c_X12_thrown (gk hX) (gl hX) hs  M_4 _ er_5) kX12_thrown vX12_thrown w_1727 (st139 hs) rfl rfl rfl rfl (Nat.le_of_ble_eq_true rfl) ⟨Nat.le_trans (Nat.add_le_add_left (Nat.le_of_ble_eq_true rfl : 1 ≤ 5) _) hk.1, Nat.le_trans (Nat.add_le_add_left (Nat.le_of_ble_eq_true rfl : 6 ≤ 30) _) hk.2⟩ ?_
  refine x_iload hX dL_law_840 rfl ?_
  refine x_icmp_eq (tgt := 847) hX dL_law_842 (by decide) rfl rfl (fun hc => ?_) (fun hc => ?_)
  · replace h := (if_pos hc).symm.trans h
    refine x_iload hX dL_law_847 rfl ?_
    refine x_if_ne (tgt := 864) hX dL_law_849 (by decide) rfl (fun hc => ?_) (fun hc => ?_)
    · replace h := (if_pos hc).symm.trans h
      refine x_aloadn hX dL_law_852 rfl ?_
      refine x_iconst hX dL_law_853 ?_
      refine x_lald hX dL_law_854 h3 inc_0_1 ixc_0 ?_
      refine x_iload hX dL_law_855 rfl ?_
      refine x_i2l hX dL_law_857 ?_
      refine x_lcmp hX dL_law_858 ?_
      refine x_if_eq (tgt := 864) hX dL_law_859 (by decide) rfl (fun hc => ?_) (fun hc => ?_)
      · replace h := (if_pos hc).symm.trans h
        refine x_goto (tgt := 3147) hX dL_law_864 (by decide) ?_
        cases h
        exact x_wid (k2 := k + 5) (n2 := n + 30) (Nat.add_le_add_left (Nat.le_of_ble_eq_true rfl : 1 ≤ 5) _) (Nat.add_le_add_left (Nat.le_of_ble_eq_true rfl : 6 ≤ 30) _) (x_weak [true, true, true, true, true, false, false] rfl hE)
      · replace h := (if_neg hc).symm.trans h
        refine x_iconst hX dL_law_862 ?_
        cases h
    · replace h := (if_neg hc).symm.trans h
      refine x_goto (tgt := 3147) hX dL_law_864 (by decide) ?_
      cases h
      exact x_wid (k2 := k + 5) (n2 := n + 30) (Nat.add_le_add_left (Nat.le_of_ble_eq_true rfl : 1 ≤ 5) _) (Nat.add_le_add_left (Nat.le_of_ble_eq_true rfl : 6 ≤ 30) _) (x_weak [true, true, true, true, true, false, false] rfl hE)
  · replace h := (if_neg hc).symm.trans h
    refine x_iconst hX dL_law_845 ?_
    cases h

set_option maxRecDepth 100000 in
set_option maxHeartbeats 4000000 in
theorem law_11 {X : Cxt} (hX : Gd X RL cL_law 7 (some .boolean) 40) (hs : SOK (xG X)) (h3 : at_ (xG X) 157 4 1) {b Lx : Nat} {sx : Nat → Int} (hx : SX X b Lx sx) (x4 p1 p2 p3 p4 : Int) (b1 : inb (x4 + 1) Lx) (b2 : inb (x4 + 2) Lx) (b3 : inb (x4 + 3) Lx) (b4 : inb (x4 + 4) Lx) (e1 : sx (ix (x4 + 1)) = p1) (e2 : sx (ix (x4 + 2)) = p2) (e3 : sx (ix (x4 + 3)) = p3) (e4 : sx (ix (x4 + 4)) = p4) {k n : Nat} (hk : k + 5 ≤ (xR X).cells ∧ n + 30 ≤ (xR X).slots) {Q : State → Prop} (M Mr : Mem) (h : L_11 p1 p2 p3 p4 M = some Mr) (hE : V X (k + 5) (n + 30) Q 3147 [some (.ref b), some (vr (xG X) 0), some (vr (xG X) 139), some (vr (xG X) 157), some (vi x4), none, none] [] Mr) : V X k n Q 867 [some (.ref b), some (vr (xG X) 0), some (vr (xG X) 139), some (vr (xG X) 157), some (vi x4), none, none] [] M := by
  unfold L_11 at h
  refine x_aloadn hX dL_law_867 rfl ?_
  refine x_qload hX dL_law_868 rfl ?_
  refine x_iload hX dL_law_869 rfl ?_
  refine x_iconst hX dL_law_871 ?_
  refine x_iadd hX dL_law_872 ?_
  refine x_sld hX hx dL_law_873 b1 e1 ?_
  refine x_aloadn hX dL_law_874 rfl ?_
  obtain ⟨r_1, M_2, er_1, h⟩ := cl2_of h
  refine x_wS (As := [vr (xG X) 0, vi p1, vr (xG X) 157]) (rest := []) hX dL_law_875 (c_L_due (gk hX) (gl hX) hs h3 p1 M _ _ er_1) kL_due w_1144 rfl rfl rfl (Nat.le_of_ble_eq_true rfl) ⟨Nat.le_trans (Nat.add_le_add_left (Nat.le_of_ble_eq_true rfl : 1 ≤ 5) _) hk.1, Nat.le_trans (Nat.add_le_add_left (Nat.le_of_ble_eq_true rfl : 6 ≤ 30) _) hk.2⟩ ?_
  show V X (k + 1) (n + 6) Q 878 [some (.ref b), some (vr (xG X) 0), some (vr (xG X) 139), some (vr (xG X) 157), some (vi x4), none, none] [vi r_1] M_2
  refine x_istore (ls' := [some (.ref b), some (vr (xG X) 0), some (vr (xG X) 139), some (vr (xG X) 157), some (vi x4), some (vi r_1), none]) hX dL_law_878 rfl rfl rfl ?_
  refine x_aloadn hX dL_law_880 rfl ?_
  refine x_qload hX dL_law_881 rfl ?_
  refine x_iload hX dL_law_882 rfl ?_
  refine x_iconst hX dL_law_884 ?_
  refine x_iadd hX dL_law_885 ?_
  refine x_sld hX hx dL_law_886 b1 e1 ?_
  obtain ⟨r_3, M_4, er_3, h⟩ := cl2_of h
  refine x_callVi (t := 11) (As := [vi p1]) (rest := []) hX dL_law_887 (c_X12_due (gk hX) (gl hX) hs p1 M_2 _ _ er_3) kX12_due vX12_due w_1828 (st139 hs) rfl rfl rfl rfl (Nat.le_of_ble_eq_true rfl) ⟨Nat.le_trans (Nat.add_le_add_left (Nat.le_of_ble_eq_true rfl : 1 ≤ 5) _) hk.1, Nat.le_trans (Nat.add_le_add_left (Nat.le_of_ble_eq_true rfl : 6 ≤ 30) _) hk.2⟩ ?_
  refine x_istore (ls' := [some (.ref b), some (vr (xG X) 0), some (vr (xG X) 139), some (vr (xG X) 157), some (vi x4), some (vi r_1), some (vi r_3)]) hX dL_law_890 rfl rfl rfl ?_
  refine x_aloadn hX dL_law_892 rfl ?_
  obtain ⟨r_5, er_5, h⟩ := cl1_of h
  refine x_callVi (t := 11) (As := []) (rest := []) hX dL_law_893 (c_X12_thrown (gk hX) (gl hX) hs  M_4 _ er_5) kX12_thrown vX12_thrown w_1727 (st139 hs) rfl rfl rfl rfl (Nat.le_of_ble_eq_true rfl) ⟨Nat.le_trans (Nat.add_le_add_left (Nat.le_of_ble_eq_true rfl : 1 ≤ 5) _) hk.1, Nat.le_trans (Nat.add_le_add_left (Nat.le_of_ble_eq_true rfl : 6 ≤ 30) _) hk.2⟩ ?_
  refine x_iload hX dL_law_896 rfl ?_
  refine x_icmp_eq (tgt := 903) hX dL_law_898 (by decide) rfl rfl (fun hc => ?_) (fun hc => ?_)
  · replace h := (if_pos hc).symm.trans h
    refine x_iload hX dL_law_903 rfl ?_
    refine x_if_ne (tgt := 920) hX dL_law_905 (by decide) rfl (fun hc => ?_) (fun hc => ?_)
    · replace h := (if_pos hc).symm.trans h
      refine x_aloadn hX dL_law_908 rfl ?_
      refine x_iconst hX dL_law_909 ?_
      refine x_lald hX dL_law_910 h3 inc_0_1 ixc_0 ?_
      refine x_iload hX dL_law_911 rfl ?_
      refine x_i2l hX dL_law_913 ?_
      refine x_lcmp hX dL_law_914 ?_
      refine x_if_eq (tgt := 920) hX dL_law_915 (by decide) rfl (fun hc => ?_) (fun hc => ?_)
      · replace h := (if_pos hc).symm.trans h
        refine x_goto (tgt := 3147) hX dL_law_920 (by decide) ?_
        cases h
        exact x_wid (k2 := k + 5) (n2 := n + 30) (Nat.add_le_add_left (Nat.le_of_ble_eq_true rfl : 1 ≤ 5) _) (Nat.add_le_add_left (Nat.le_of_ble_eq_true rfl : 6 ≤ 30) _) (x_weak [true, true, true, true, true, false, false] rfl hE)
      · replace h := (if_neg hc).symm.trans h
        refine x_iconst hX dL_law_918 ?_
        cases h
    · replace h := (if_neg hc).symm.trans h
      refine x_goto (tgt := 3147) hX dL_law_920 (by decide) ?_
      cases h
      exact x_wid (k2 := k + 5) (n2 := n + 30) (Nat.add_le_add_left (Nat.le_of_ble_eq_true rfl : 1 ≤ 5) _) (Nat.add_le_add_left (Nat.le_of_ble_eq_true rfl : 6 ≤ 30) _) (x_weak [true, true, true, true, true, false, false] rfl hE)
  · replace h := (if_neg hc).symm.trans h
    refine x_iconst hX dL_law_901 ?_
    cases h

set_option maxRecDepth 100000 in
set_option maxHeartbeats 4000000 in
theorem law_12 {X : Cxt} (hX : Gd X RL cL_law 7 (some .boolean) 40) (hs : SOK (xG X)) (h3 : at_ (xG X) 157 4 1) {b Lx : Nat} {sx : Nat → Int} (hx : SX X b Lx sx) (x4 p1 p2 p3 p4 : Int) (b1 : inb (x4 + 1) Lx) (b2 : inb (x4 + 2) Lx) (b3 : inb (x4 + 3) Lx) (b4 : inb (x4 + 4) Lx) (e1 : sx (ix (x4 + 1)) = p1) (e2 : sx (ix (x4 + 2)) = p2) (e3 : sx (ix (x4 + 3)) = p3) (e4 : sx (ix (x4 + 4)) = p4) {k n : Nat} (hk : k + 5 ≤ (xR X).cells ∧ n + 30 ≤ (xR X).slots) {Q : State → Prop} (M Mr : Mem) (h : L_12 p1 p2 p3 p4 M = some Mr) (hE : V X (k + 5) (n + 30) Q 3147 [some (.ref b), some (vr (xG X) 0), some (vr (xG X) 139), some (vr (xG X) 157), some (vi x4), none, none] [] Mr) : V X k n Q 923 [some (.ref b), some (vr (xG X) 0), some (vr (xG X) 139), some (vr (xG X) 157), some (vi x4), none, none] [] M := by
  unfold L_12 at h
  refine x_aloadn hX dL_law_923 rfl ?_
  refine x_qload hX dL_law_924 rfl ?_
  refine x_iload hX dL_law_925 rfl ?_
  refine x_iconst hX dL_law_927 ?_
  refine x_iadd hX dL_law_928 ?_
  refine x_sld hX hx dL_law_929 b1 e1 ?_
  refine x_qload hX dL_law_930 rfl ?_
  refine x_iload hX dL_law_931 rfl ?_
  refine x_iconst hX dL_law_933 ?_
  refine x_iadd hX dL_law_934 ?_
  refine x_sld hX hx dL_law_935 b2 e2 ?_
  refine x_aloadn hX dL_law_936 rfl ?_
  obtain ⟨r_1, M_2, er_1, h⟩ := cl2_of h
  refine x_wS (As := [vr (xG X) 0, vi p1, vi p2, vr (xG X) 157]) (rest := []) hX dL_law_937 (c_L_setDue (gk hX) (gl hX) hs h3 p1 p2 M _ _ er_1) kL_setDue w_1151 rfl rfl rfl (Nat.le_of_ble_eq_true rfl) ⟨Nat.le_trans (Nat.add_le_add_left (Nat.le_of_ble_eq_true rfl : 3 ≤ 5) _) hk.1, Nat.le_trans (Nat.add_le_add_left (Nat.le_of_ble_eq_true rfl : 18 ≤ 30) _) hk.2⟩ ?_
  show V X (k + 3) (n + 18) Q 940 [some (.ref b), some (vr (xG X) 0), some (vr (xG X) 139), some (vr (xG X) 157), some (vi x4), none, none] [vi r_1] M_2
  refine x_istore (ls' := [some (.ref b), some (vr (xG X) 0), some (vr (xG X) 139), some (vr (xG X) 157), some (vi x4), some (vi r_1), none]) hX dL_law_940 rfl rfl rfl ?_
  refine x_aloadn hX dL_law_942 rfl ?_
  refine x_qload hX dL_law_943 rfl ?_
  refine x_iload hX dL_law_944 rfl ?_
  refine x_iconst hX dL_law_946 ?_
  refine x_iadd hX dL_law_947 ?_
  refine x_sld hX hx dL_law_948 b1 e1 ?_
  refine x_qload hX dL_law_949 rfl ?_
  refine x_iload hX dL_law_950 rfl ?_
  refine x_iconst hX dL_law_952 ?_
  refine x_iadd hX dL_law_953 ?_
  refine x_sld hX hx dL_law_954 b2 e2 ?_
  obtain ⟨r_3, M_4, er_3, h⟩ := cl2_of h
  refine x_callVi (t := 11) (As := [vi p1, vi p2]) (rest := []) hX dL_law_955 (c_X12_setDue (gk hX) (gl hX) hs p1 p2 M_2 _ _ er_3) kX12_setDue vX12_setDue w_1832 (st139 hs) rfl rfl rfl rfl (Nat.le_of_ble_eq_true rfl) ⟨Nat.le_trans (Nat.add_le_add_left (Nat.le_of_ble_eq_true rfl : 3 ≤ 5) _) hk.1, Nat.le_trans (Nat.add_le_add_left (Nat.le_of_ble_eq_true rfl : 18 ≤ 30) _) hk.2⟩ ?_
  refine x_istore (ls' := [some (.ref b), some (vr (xG X) 0), some (vr (xG X) 139), some (vr (xG X) 157), some (vi x4), some (vi r_1), some (vi r_3)]) hX dL_law_958 rfl rfl rfl ?_
  refine x_aloadn hX dL_law_960 rfl ?_
  obtain ⟨r_5, er_5, h⟩ := cl1_of h
  refine x_callVi (t := 11) (As := []) (rest := []) hX dL_law_961 (c_X12_thrown (gk hX) (gl hX) hs  M_4 _ er_5) kX12_thrown vX12_thrown w_1727 (st139 hs) rfl rfl rfl rfl (Nat.le_of_ble_eq_true rfl) ⟨Nat.le_trans (Nat.add_le_add_left (Nat.le_of_ble_eq_true rfl : 3 ≤ 5) _) hk.1, Nat.le_trans (Nat.add_le_add_left (Nat.le_of_ble_eq_true rfl : 18 ≤ 30) _) hk.2⟩ ?_
  refine x_iload hX dL_law_964 rfl ?_
  refine x_icmp_eq (tgt := 971) hX dL_law_966 (by decide) rfl rfl (fun hc => ?_) (fun hc => ?_)
  · replace h := (if_pos hc).symm.trans h
    refine x_iload hX dL_law_971 rfl ?_
    refine x_if_ne (tgt := 988) hX dL_law_973 (by decide) rfl (fun hc => ?_) (fun hc => ?_)
    · replace h := (if_pos hc).symm.trans h
      refine x_aloadn hX dL_law_976 rfl ?_
      refine x_iconst hX dL_law_977 ?_
      refine x_lald hX dL_law_978 h3 inc_0_1 ixc_0 ?_
      refine x_iload hX dL_law_979 rfl ?_
      refine x_i2l hX dL_law_981 ?_
      refine x_lcmp hX dL_law_982 ?_
      refine x_if_eq (tgt := 988) hX dL_law_983 (by decide) rfl (fun hc => ?_) (fun hc => ?_)
      · replace h := (if_pos hc).symm.trans h
        refine x_goto (tgt := 3147) hX dL_law_988 (by decide) ?_
        cases h
        exact x_wid (k2 := k + 5) (n2 := n + 30) (Nat.add_le_add_left (Nat.le_of_ble_eq_true rfl : 3 ≤ 5) _) (Nat.add_le_add_left (Nat.le_of_ble_eq_true rfl : 18 ≤ 30) _) (x_weak [true, true, true, true, true, false, false] rfl hE)
      · replace h := (if_neg hc).symm.trans h
        refine x_iconst hX dL_law_986 ?_
        cases h
    · replace h := (if_neg hc).symm.trans h
      refine x_goto (tgt := 3147) hX dL_law_988 (by decide) ?_
      cases h
      exact x_wid (k2 := k + 5) (n2 := n + 30) (Nat.add_le_add_left (Nat.le_of_ble_eq_true rfl : 3 ≤ 5) _) (Nat.add_le_add_left (Nat.le_of_ble_eq_true rfl : 18 ≤ 30) _) (x_weak [true, true, true, true, true, false, false] rfl hE)
  · replace h := (if_neg hc).symm.trans h
    refine x_iconst hX dL_law_969 ?_
    cases h

set_option maxRecDepth 100000 in
set_option maxHeartbeats 4000000 in
theorem law_13 {X : Cxt} (hX : Gd X RL cL_law 7 (some .boolean) 40) (hs : SOK (xG X)) (h3 : at_ (xG X) 157 4 1) {b Lx : Nat} {sx : Nat → Int} (hx : SX X b Lx sx) (x4 p1 p2 p3 p4 : Int) (b1 : inb (x4 + 1) Lx) (b2 : inb (x4 + 2) Lx) (b3 : inb (x4 + 3) Lx) (b4 : inb (x4 + 4) Lx) (e1 : sx (ix (x4 + 1)) = p1) (e2 : sx (ix (x4 + 2)) = p2) (e3 : sx (ix (x4 + 3)) = p3) (e4 : sx (ix (x4 + 4)) = p4) {k n : Nat} (hk : k + 5 ≤ (xR X).cells ∧ n + 30 ≤ (xR X).slots) {Q : State → Prop} (M Mr : Mem) (h : L_13 p1 p2 p3 p4 M = some Mr) (hE : V X (k + 5) (n + 30) Q 3147 [some (.ref b), some (vr (xG X) 0), some (vr (xG X) 139), some (vr (xG X) 157), some (vi x4), none, none] [] Mr) : V X k n Q 991 [some (.ref b), some (vr (xG X) 0), some (vr (xG X) 139), some (vr (xG X) 157), some (vi x4), none, none] [] M := by
  unfold L_13 at h
  refine x_aloadn hX dL_law_991 rfl ?_
  refine x_qload hX dL_law_992 rfl ?_
  refine x_iload hX dL_law_993 rfl ?_
  refine x_iconst hX dL_law_995 ?_
  refine x_iadd hX dL_law_996 ?_
  refine x_sld hX hx dL_law_997 b1 e1 ?_
  refine x_aloadn hX dL_law_998 rfl ?_
  obtain ⟨r_1, M_2, er_1, h⟩ := cl2_of h
  refine x_wS (As := [vr (xG X) 0, vi p1, vr (xG X) 157]) (rest := []) hX dL_law_999 (c_L_orderWeight (gk hX) (gl hX) hs h3 p1 M _ _ er_1) kL_orderWeight w_1163 rfl rfl rfl (Nat.le_of_ble_eq_true rfl) ⟨Nat.le_trans (Nat.add_le_add_left (Nat.le_of_ble_eq_true rfl : 1 ≤ 5) _) hk.1, Nat.le_trans (Nat.add_le_add_left (Nat.le_of_ble_eq_true rfl : 6 ≤ 30) _) hk.2⟩ ?_
  show V X (k + 1) (n + 6) Q 1002 [some (.ref b), some (vr (xG X) 0), some (vr (xG X) 139), some (vr (xG X) 157), some (vi x4), none, none] [vi r_1] M_2
  refine x_istore (ls' := [some (.ref b), some (vr (xG X) 0), some (vr (xG X) 139), some (vr (xG X) 157), some (vi x4), some (vi r_1), none]) hX dL_law_1002 rfl rfl rfl ?_
  refine x_aloadn hX dL_law_1004 rfl ?_
  refine x_qload hX dL_law_1005 rfl ?_
  refine x_iload hX dL_law_1006 rfl ?_
  refine x_iconst hX dL_law_1008 ?_
  refine x_iadd hX dL_law_1009 ?_
  refine x_sld hX hx dL_law_1010 b1 e1 ?_
  obtain ⟨r_3, M_4, er_3, h⟩ := cl2_of h
  refine x_callVi (t := 11) (As := [vi p1]) (rest := []) hX dL_law_1011 (c_X12_orderWeight (gk hX) (gl hX) hs p1 M_2 _ _ er_3) kX12_orderWeight vX12_orderWeight w_1840 (st139 hs) rfl rfl rfl rfl (Nat.le_of_ble_eq_true rfl) ⟨Nat.le_trans (Nat.add_le_add_left (Nat.le_of_ble_eq_true rfl : 1 ≤ 5) _) hk.1, Nat.le_trans (Nat.add_le_add_left (Nat.le_of_ble_eq_true rfl : 6 ≤ 30) _) hk.2⟩ ?_
  refine x_istore (ls' := [some (.ref b), some (vr (xG X) 0), some (vr (xG X) 139), some (vr (xG X) 157), some (vi x4), some (vi r_1), some (vi r_3)]) hX dL_law_1014 rfl rfl rfl ?_
  refine x_aloadn hX dL_law_1016 rfl ?_
  obtain ⟨r_5, er_5, h⟩ := cl1_of h
  refine x_callVi (t := 11) (As := []) (rest := []) hX dL_law_1017 (c_X12_thrown (gk hX) (gl hX) hs  M_4 _ er_5) kX12_thrown vX12_thrown w_1727 (st139 hs) rfl rfl rfl rfl (Nat.le_of_ble_eq_true rfl) ⟨Nat.le_trans (Nat.add_le_add_left (Nat.le_of_ble_eq_true rfl : 1 ≤ 5) _) hk.1, Nat.le_trans (Nat.add_le_add_left (Nat.le_of_ble_eq_true rfl : 6 ≤ 30) _) hk.2⟩ ?_
  refine x_iload hX dL_law_1020 rfl ?_
  refine x_icmp_eq (tgt := 1027) hX dL_law_1022 (by decide) rfl rfl (fun hc => ?_) (fun hc => ?_)
  · replace h := (if_pos hc).symm.trans h
    refine x_iload hX dL_law_1027 rfl ?_
    refine x_if_ne (tgt := 1044) hX dL_law_1029 (by decide) rfl (fun hc => ?_) (fun hc => ?_)
    · replace h := (if_pos hc).symm.trans h
      refine x_aloadn hX dL_law_1032 rfl ?_
      refine x_iconst hX dL_law_1033 ?_
      refine x_lald hX dL_law_1034 h3 inc_0_1 ixc_0 ?_
      refine x_iload hX dL_law_1035 rfl ?_
      refine x_i2l hX dL_law_1037 ?_
      refine x_lcmp hX dL_law_1038 ?_
      refine x_if_eq (tgt := 1044) hX dL_law_1039 (by decide) rfl (fun hc => ?_) (fun hc => ?_)
      · replace h := (if_pos hc).symm.trans h
        refine x_goto (tgt := 3147) hX dL_law_1044 (by decide) ?_
        cases h
        exact x_wid (k2 := k + 5) (n2 := n + 30) (Nat.add_le_add_left (Nat.le_of_ble_eq_true rfl : 1 ≤ 5) _) (Nat.add_le_add_left (Nat.le_of_ble_eq_true rfl : 6 ≤ 30) _) (x_weak [true, true, true, true, true, false, false] rfl hE)
      · replace h := (if_neg hc).symm.trans h
        refine x_iconst hX dL_law_1042 ?_
        cases h
    · replace h := (if_neg hc).symm.trans h
      refine x_goto (tgt := 3147) hX dL_law_1044 (by decide) ?_
      cases h
      exact x_wid (k2 := k + 5) (n2 := n + 30) (Nat.add_le_add_left (Nat.le_of_ble_eq_true rfl : 1 ≤ 5) _) (Nat.add_le_add_left (Nat.le_of_ble_eq_true rfl : 6 ≤ 30) _) (x_weak [true, true, true, true, true, false, false] rfl hE)
  · replace h := (if_neg hc).symm.trans h
    refine x_iconst hX dL_law_1025 ?_
    cases h

set_option maxRecDepth 100000 in
set_option maxHeartbeats 4000000 in
theorem law_14 {X : Cxt} (hX : Gd X RL cL_law 7 (some .boolean) 40) (hs : SOK (xG X)) (h3 : at_ (xG X) 157 4 1) {b Lx : Nat} {sx : Nat → Int} (hx : SX X b Lx sx) (x4 p1 p2 p3 p4 : Int) (b1 : inb (x4 + 1) Lx) (b2 : inb (x4 + 2) Lx) (b3 : inb (x4 + 3) Lx) (b4 : inb (x4 + 4) Lx) (e1 : sx (ix (x4 + 1)) = p1) (e2 : sx (ix (x4 + 2)) = p2) (e3 : sx (ix (x4 + 3)) = p3) (e4 : sx (ix (x4 + 4)) = p4) {k n : Nat} (hk : k + 5 ≤ (xR X).cells ∧ n + 30 ≤ (xR X).slots) {Q : State → Prop} (M Mr : Mem) (h : L_14 p1 p2 p3 p4 M = some Mr) (hE : V X (k + 5) (n + 30) Q 3147 [some (.ref b), some (vr (xG X) 0), some (vr (xG X) 139), some (vr (xG X) 157), some (vi x4), none, none] [] Mr) : V X k n Q 1047 [some (.ref b), some (vr (xG X) 0), some (vr (xG X) 139), some (vr (xG X) 157), some (vi x4), none, none] [] M := by
  unfold L_14 at h
  refine x_aloadn hX dL_law_1047 rfl ?_
  refine x_qload hX dL_law_1048 rfl ?_
  refine x_iload hX dL_law_1049 rfl ?_
  refine x_iconst hX dL_law_1051 ?_
  refine x_iadd hX dL_law_1052 ?_
  refine x_sld hX hx dL_law_1053 b1 e1 ?_
  refine x_aloadn hX dL_law_1054 rfl ?_
  obtain ⟨r_1, M_2, er_1, h⟩ := cl2_of h
  refine x_wS (As := [vr (xG X) 0, vi p1, vr (xG X) 157]) (rest := []) hX dL_law_1055 (c_L_orderAisles (gk hX) (gl hX) hs h3 p1 M _ _ er_1) kL_orderAisles w_1174 rfl rfl rfl (Nat.le_of_ble_eq_true rfl) ⟨Nat.le_trans (Nat.add_le_add_left (Nat.le_of_ble_eq_true rfl : 1 ≤ 5) _) hk.1, Nat.le_trans (Nat.add_le_add_left (Nat.le_of_ble_eq_true rfl : 6 ≤ 30) _) hk.2⟩ ?_
  show V X (k + 1) (n + 6) Q 1058 [some (.ref b), some (vr (xG X) 0), some (vr (xG X) 139), some (vr (xG X) 157), some (vi x4), none, none] [vi r_1] M_2
  refine x_istore (ls' := [some (.ref b), some (vr (xG X) 0), some (vr (xG X) 139), some (vr (xG X) 157), some (vi x4), some (vi r_1), none]) hX dL_law_1058 rfl rfl rfl ?_
  refine x_aloadn hX dL_law_1060 rfl ?_
  refine x_qload hX dL_law_1061 rfl ?_
  refine x_iload hX dL_law_1062 rfl ?_
  refine x_iconst hX dL_law_1064 ?_
  refine x_iadd hX dL_law_1065 ?_
  refine x_sld hX hx dL_law_1066 b1 e1 ?_
  obtain ⟨r_3, M_4, er_3, h⟩ := cl2_of h
  refine x_callVi (t := 11) (As := [vi p1]) (rest := []) hX dL_law_1067 (c_X12_orderAisles (gk hX) (gl hX) hs p1 M_2 _ _ er_3) kX12_orderAisles vX12_orderAisles w_1848 (st139 hs) rfl rfl rfl rfl (Nat.le_of_ble_eq_true rfl) ⟨Nat.le_trans (Nat.add_le_add_left (Nat.le_of_ble_eq_true rfl : 1 ≤ 5) _) hk.1, Nat.le_trans (Nat.add_le_add_left (Nat.le_of_ble_eq_true rfl : 6 ≤ 30) _) hk.2⟩ ?_
  refine x_istore (ls' := [some (.ref b), some (vr (xG X) 0), some (vr (xG X) 139), some (vr (xG X) 157), some (vi x4), some (vi r_1), some (vi r_3)]) hX dL_law_1070 rfl rfl rfl ?_
  refine x_aloadn hX dL_law_1072 rfl ?_
  obtain ⟨r_5, er_5, h⟩ := cl1_of h
  refine x_callVi (t := 11) (As := []) (rest := []) hX dL_law_1073 (c_X12_thrown (gk hX) (gl hX) hs  M_4 _ er_5) kX12_thrown vX12_thrown w_1727 (st139 hs) rfl rfl rfl rfl (Nat.le_of_ble_eq_true rfl) ⟨Nat.le_trans (Nat.add_le_add_left (Nat.le_of_ble_eq_true rfl : 1 ≤ 5) _) hk.1, Nat.le_trans (Nat.add_le_add_left (Nat.le_of_ble_eq_true rfl : 6 ≤ 30) _) hk.2⟩ ?_
  refine x_iload hX dL_law_1076 rfl ?_
  refine x_icmp_eq (tgt := 1083) hX dL_law_1078 (by decide) rfl rfl (fun hc => ?_) (fun hc => ?_)
  · replace h := (if_pos hc).symm.trans h
    refine x_iload hX dL_law_1083 rfl ?_
    refine x_if_ne (tgt := 1100) hX dL_law_1085 (by decide) rfl (fun hc => ?_) (fun hc => ?_)
    · replace h := (if_pos hc).symm.trans h
      refine x_aloadn hX dL_law_1088 rfl ?_
      refine x_iconst hX dL_law_1089 ?_
      refine x_lald hX dL_law_1090 h3 inc_0_1 ixc_0 ?_
      refine x_iload hX dL_law_1091 rfl ?_
      refine x_i2l hX dL_law_1093 ?_
      refine x_lcmp hX dL_law_1094 ?_
      refine x_if_eq (tgt := 1100) hX dL_law_1095 (by decide) rfl (fun hc => ?_) (fun hc => ?_)
      · replace h := (if_pos hc).symm.trans h
        refine x_goto (tgt := 3147) hX dL_law_1100 (by decide) ?_
        cases h
        exact x_wid (k2 := k + 5) (n2 := n + 30) (Nat.add_le_add_left (Nat.le_of_ble_eq_true rfl : 1 ≤ 5) _) (Nat.add_le_add_left (Nat.le_of_ble_eq_true rfl : 6 ≤ 30) _) (x_weak [true, true, true, true, true, false, false] rfl hE)
      · replace h := (if_neg hc).symm.trans h
        refine x_iconst hX dL_law_1098 ?_
        cases h
    · replace h := (if_neg hc).symm.trans h
      refine x_goto (tgt := 3147) hX dL_law_1100 (by decide) ?_
      cases h
      exact x_wid (k2 := k + 5) (n2 := n + 30) (Nat.add_le_add_left (Nat.le_of_ble_eq_true rfl : 1 ≤ 5) _) (Nat.add_le_add_left (Nat.le_of_ble_eq_true rfl : 6 ≤ 30) _) (x_weak [true, true, true, true, true, false, false] rfl hE)
  · replace h := (if_neg hc).symm.trans h
    refine x_iconst hX dL_law_1081 ?_
    cases h

set_option maxRecDepth 100000 in
set_option maxHeartbeats 4000000 in
theorem law_15 {X : Cxt} (hX : Gd X RL cL_law 7 (some .boolean) 40) (hs : SOK (xG X)) (h3 : at_ (xG X) 157 4 1) {b Lx : Nat} {sx : Nat → Int} (hx : SX X b Lx sx) (x4 p1 p2 p3 p4 : Int) (b1 : inb (x4 + 1) Lx) (b2 : inb (x4 + 2) Lx) (b3 : inb (x4 + 3) Lx) (b4 : inb (x4 + 4) Lx) (e1 : sx (ix (x4 + 1)) = p1) (e2 : sx (ix (x4 + 2)) = p2) (e3 : sx (ix (x4 + 3)) = p3) (e4 : sx (ix (x4 + 4)) = p4) {k n : Nat} (hk : k + 5 ≤ (xR X).cells ∧ n + 30 ≤ (xR X).slots) {Q : State → Prop} (M Mr : Mem) (h : L_15 p1 p2 p3 p4 M = some Mr) (hE : V X (k + 5) (n + 30) Q 3147 [some (.ref b), some (vr (xG X) 0), some (vr (xG X) 139), some (vr (xG X) 157), some (vi x4), none, none] [] Mr) : V X k n Q 1103 [some (.ref b), some (vr (xG X) 0), some (vr (xG X) 139), some (vr (xG X) 157), some (vi x4), none, none] [] M := by
  unfold L_15 at h
  refine x_aloadn hX dL_law_1103 rfl ?_
  refine x_qload hX dL_law_1104 rfl ?_
  refine x_iload hX dL_law_1105 rfl ?_
  refine x_iconst hX dL_law_1107 ?_
  refine x_iadd hX dL_law_1108 ?_
  refine x_sld hX hx dL_law_1109 b1 e1 ?_
  refine x_aloadn hX dL_law_1110 rfl ?_
  obtain ⟨r_1, M_2, er_1, h⟩ := cl2_of h
  refine x_wS (As := [vr (xG X) 0, vi p1, vr (xG X) 157]) (rest := []) hX dL_law_1111 (c_L_cancel (gk hX) (gl hX) hs h3 p1 M _ _ er_1) kL_cancel w_1185 rfl rfl rfl (Nat.le_of_ble_eq_true rfl) ⟨Nat.le_trans (Nat.add_le_add_left (Nat.le_of_ble_eq_true rfl : 2 ≤ 5) _) hk.1, Nat.le_trans (Nat.add_le_add_left (Nat.le_of_ble_eq_true rfl : 12 ≤ 30) _) hk.2⟩ ?_
  show V X (k + 2) (n + 12) Q 1114 [some (.ref b), some (vr (xG X) 0), some (vr (xG X) 139), some (vr (xG X) 157), some (vi x4), none, none] [vi r_1] M_2
  refine x_istore (ls' := [some (.ref b), some (vr (xG X) 0), some (vr (xG X) 139), some (vr (xG X) 157), some (vi x4), some (vi r_1), none]) hX dL_law_1114 rfl rfl rfl ?_
  refine x_aloadn hX dL_law_1116 rfl ?_
  refine x_qload hX dL_law_1117 rfl ?_
  refine x_iload hX dL_law_1118 rfl ?_
  refine x_iconst hX dL_law_1120 ?_
  refine x_iadd hX dL_law_1121 ?_
  refine x_sld hX hx dL_law_1122 b1 e1 ?_
  obtain ⟨r_3, M_4, er_3, h⟩ := cl2_of h
  refine x_callVi (t := 11) (As := [vi p1]) (rest := []) hX dL_law_1123 (c_X12_cancel (gk hX) (gl hX) hs p1 M_2 _ _ er_3) kX12_cancel vX12_cancel w_1856 (st139 hs) rfl rfl rfl rfl (Nat.le_of_ble_eq_true rfl) ⟨Nat.le_trans (Nat.add_le_add_left (Nat.le_of_ble_eq_true rfl : 2 ≤ 5) _) hk.1, Nat.le_trans (Nat.add_le_add_left (Nat.le_of_ble_eq_true rfl : 12 ≤ 30) _) hk.2⟩ ?_
  refine x_istore (ls' := [some (.ref b), some (vr (xG X) 0), some (vr (xG X) 139), some (vr (xG X) 157), some (vi x4), some (vi r_1), some (vi r_3)]) hX dL_law_1126 rfl rfl rfl ?_
  refine x_aloadn hX dL_law_1128 rfl ?_
  obtain ⟨r_5, er_5, h⟩ := cl1_of h
  refine x_callVi (t := 11) (As := []) (rest := []) hX dL_law_1129 (c_X12_thrown (gk hX) (gl hX) hs  M_4 _ er_5) kX12_thrown vX12_thrown w_1727 (st139 hs) rfl rfl rfl rfl (Nat.le_of_ble_eq_true rfl) ⟨Nat.le_trans (Nat.add_le_add_left (Nat.le_of_ble_eq_true rfl : 2 ≤ 5) _) hk.1, Nat.le_trans (Nat.add_le_add_left (Nat.le_of_ble_eq_true rfl : 12 ≤ 30) _) hk.2⟩ ?_
  refine x_iload hX dL_law_1132 rfl ?_
  refine x_icmp_eq (tgt := 1139) hX dL_law_1134 (by decide) rfl rfl (fun hc => ?_) (fun hc => ?_)
  · replace h := (if_pos hc).symm.trans h
    refine x_iload hX dL_law_1139 rfl ?_
    refine x_if_ne (tgt := 1156) hX dL_law_1141 (by decide) rfl (fun hc => ?_) (fun hc => ?_)
    · replace h := (if_pos hc).symm.trans h
      refine x_aloadn hX dL_law_1144 rfl ?_
      refine x_iconst hX dL_law_1145 ?_
      refine x_lald hX dL_law_1146 h3 inc_0_1 ixc_0 ?_
      refine x_iload hX dL_law_1147 rfl ?_
      refine x_i2l hX dL_law_1149 ?_
      refine x_lcmp hX dL_law_1150 ?_
      refine x_if_eq (tgt := 1156) hX dL_law_1151 (by decide) rfl (fun hc => ?_) (fun hc => ?_)
      · replace h := (if_pos hc).symm.trans h
        refine x_goto (tgt := 3147) hX dL_law_1156 (by decide) ?_
        cases h
        exact x_wid (k2 := k + 5) (n2 := n + 30) (Nat.add_le_add_left (Nat.le_of_ble_eq_true rfl : 2 ≤ 5) _) (Nat.add_le_add_left (Nat.le_of_ble_eq_true rfl : 12 ≤ 30) _) (x_weak [true, true, true, true, true, false, false] rfl hE)
      · replace h := (if_neg hc).symm.trans h
        refine x_iconst hX dL_law_1154 ?_
        cases h
    · replace h := (if_neg hc).symm.trans h
      refine x_goto (tgt := 3147) hX dL_law_1156 (by decide) ?_
      cases h
      exact x_wid (k2 := k + 5) (n2 := n + 30) (Nat.add_le_add_left (Nat.le_of_ble_eq_true rfl : 2 ≤ 5) _) (Nat.add_le_add_left (Nat.le_of_ble_eq_true rfl : 12 ≤ 30) _) (x_weak [true, true, true, true, true, false, false] rfl hE)
  · replace h := (if_neg hc).symm.trans h
    refine x_iconst hX dL_law_1137 ?_
    cases h

set_option maxRecDepth 100000 in
set_option maxHeartbeats 4000000 in
theorem law_16 {X : Cxt} (hX : Gd X RL cL_law 7 (some .boolean) 40) (hs : SOK (xG X)) (h3 : at_ (xG X) 157 4 1) {b Lx : Nat} {sx : Nat → Int} (hx : SX X b Lx sx) (x4 p1 p2 p3 p4 : Int) (b1 : inb (x4 + 1) Lx) (b2 : inb (x4 + 2) Lx) (b3 : inb (x4 + 3) Lx) (b4 : inb (x4 + 4) Lx) (e1 : sx (ix (x4 + 1)) = p1) (e2 : sx (ix (x4 + 2)) = p2) (e3 : sx (ix (x4 + 3)) = p3) (e4 : sx (ix (x4 + 4)) = p4) {k n : Nat} (hk : k + 5 ≤ (xR X).cells ∧ n + 30 ≤ (xR X).slots) {Q : State → Prop} (M Mr : Mem) (h : L_16 p1 p2 p3 p4 M = some Mr) (hE : V X (k + 5) (n + 30) Q 3147 [some (.ref b), some (vr (xG X) 0), some (vr (xG X) 139), some (vr (xG X) 157), some (vi x4), none, none] [] Mr) : V X k n Q 1159 [some (.ref b), some (vr (xG X) 0), some (vr (xG X) 139), some (vr (xG X) 157), some (vi x4), none, none] [] M := by
  unfold L_16 at h
  refine x_aloadn hX dL_law_1159 rfl ?_
  refine x_qload hX dL_law_1160 rfl ?_
  refine x_iload hX dL_law_1161 rfl ?_
  refine x_iconst hX dL_law_1163 ?_
  refine x_iadd hX dL_law_1164 ?_
  refine x_sld hX hx dL_law_1165 b1 e1 ?_
  refine x_qload hX dL_law_1166 rfl ?_
  refine x_iload hX dL_law_1167 rfl ?_
  refine x_iconst hX dL_law_1169 ?_
  refine x_iadd hX dL_law_1170 ?_
  refine x_sld hX hx dL_law_1171 b2 e2 ?_
  refine x_qload hX dL_law_1172 rfl ?_
  refine x_iload hX dL_law_1173 rfl ?_
  refine x_iconst hX dL_law_1175 ?_
  refine x_iadd hX dL_law_1176 ?_
  refine x_sld hX hx dL_law_1177 b3 e3 ?_
  refine x_aloadn hX dL_law_1178 rfl ?_
  obtain ⟨r_1, M_2, er_1, h⟩ := cl2_of h
  refine x_wS (As := [vr (xG X) 0, vi p1, vi p2, vi p3, vr (xG X) 157]) (rest := []) hX dL_law_1179 (c_L_makeBatches (gk hX) (gl hX) hs h3 p1 p2 p3 M _ _ er_1) kL_makeBatches w_1208 rfl rfl rfl (Nat.le_of_ble_eq_true rfl) ⟨Nat.le_trans (Nat.add_le_add_left (Nat.le_of_ble_eq_true rfl : 3 ≤ 5) _) hk.1, Nat.le_trans (Nat.add_le_add_left (Nat.le_of_ble_eq_true rfl : 18 ≤ 30) _) hk.2⟩ ?_
  show V X (k + 3) (n + 18) Q 1182 [some (.ref b), some (vr (xG X) 0), some (vr (xG X) 139), some (vr (xG X) 157), some (vi x4), none, none] [vi r_1] M_2
  refine x_istore (ls' := [some (.ref b), some (vr (xG X) 0), some (vr (xG X) 139), some (vr (xG X) 157), some (vi x4), some (vi r_1), none]) hX dL_law_1182 rfl rfl rfl ?_
  refine x_aloadn hX dL_law_1184 rfl ?_
  refine x_qload hX dL_law_1185 rfl ?_
  refine x_iload hX dL_law_1186 rfl ?_
  refine x_iconst hX dL_law_1188 ?_
  refine x_iadd hX dL_law_1189 ?_
  refine x_sld hX hx dL_law_1190 b1 e1 ?_
  refine x_qload hX dL_law_1191 rfl ?_
  refine x_iload hX dL_law_1192 rfl ?_
  refine x_iconst hX dL_law_1194 ?_
  refine x_iadd hX dL_law_1195 ?_
  refine x_sld hX hx dL_law_1196 b2 e2 ?_
  refine x_qload hX dL_law_1197 rfl ?_
  refine x_iload hX dL_law_1198 rfl ?_
  refine x_iconst hX dL_law_1200 ?_
  refine x_iadd hX dL_law_1201 ?_
  refine x_sld hX hx dL_law_1202 b3 e3 ?_
  obtain ⟨r_3, M_4, er_3, h⟩ := cl2_of h
  refine x_callVi (t := 11) (As := [vi p1, vi p2, vi p3]) (rest := []) hX dL_law_1203 (c_X12_makeBatches (gk hX) (gl hX) hs p1 p2 p3 M_2 _ _ er_3) kX12_makeBatches vX12_makeBatches w_1875 (st139 hs) rfl rfl rfl rfl (Nat.le_of_ble_eq_true rfl) ⟨Nat.le_trans (Nat.add_le_add_left (Nat.le_of_ble_eq_true rfl : 3 ≤ 5) _) hk.1, Nat.le_trans (Nat.add_le_add_left (Nat.le_of_ble_eq_true rfl : 18 ≤ 30) _) hk.2⟩ ?_
  refine x_istore (ls' := [some (.ref b), some (vr (xG X) 0), some (vr (xG X) 139), some (vr (xG X) 157), some (vi x4), some (vi r_1), some (vi r_3)]) hX dL_law_1206 rfl rfl rfl ?_
  refine x_aloadn hX dL_law_1208 rfl ?_
  obtain ⟨r_5, er_5, h⟩ := cl1_of h
  refine x_callVi (t := 11) (As := []) (rest := []) hX dL_law_1209 (c_X12_thrown (gk hX) (gl hX) hs  M_4 _ er_5) kX12_thrown vX12_thrown w_1727 (st139 hs) rfl rfl rfl rfl (Nat.le_of_ble_eq_true rfl) ⟨Nat.le_trans (Nat.add_le_add_left (Nat.le_of_ble_eq_true rfl : 3 ≤ 5) _) hk.1, Nat.le_trans (Nat.add_le_add_left (Nat.le_of_ble_eq_true rfl : 18 ≤ 30) _) hk.2⟩ ?_
  refine x_iload hX dL_law_1212 rfl ?_
  refine x_icmp_eq (tgt := 1219) hX dL_law_1214 (by decide) rfl rfl (fun hc => ?_) (fun hc => ?_)
  · replace h := (if_pos hc).symm.trans h
    refine x_iload hX dL_law_1219 rfl ?_
    refine x_if_ne (tgt := 1236) hX dL_law_1221 (by decide) rfl (fun hc => ?_) (fun hc => ?_)
    · replace h := (if_pos hc).symm.trans h
      refine x_aloadn hX dL_law_1224 rfl ?_
      refine x_iconst hX dL_law_1225 ?_
      refine x_lald hX dL_law_1226 h3 inc_0_1 ixc_0 ?_
      refine x_iload hX dL_law_1227 rfl ?_
      refine x_i2l hX dL_law_1229 ?_
      refine x_lcmp hX dL_law_1230 ?_
      refine x_if_eq (tgt := 1236) hX dL_law_1231 (by decide) rfl (fun hc => ?_) (fun hc => ?_)
      · replace h := (if_pos hc).symm.trans h
        refine x_goto (tgt := 3147) hX dL_law_1236 (by decide) ?_
        cases h
        exact x_wid (k2 := k + 5) (n2 := n + 30) (Nat.add_le_add_left (Nat.le_of_ble_eq_true rfl : 3 ≤ 5) _) (Nat.add_le_add_left (Nat.le_of_ble_eq_true rfl : 18 ≤ 30) _) (x_weak [true, true, true, true, true, false, false] rfl hE)
      · replace h := (if_neg hc).symm.trans h
        refine x_iconst hX dL_law_1234 ?_
        cases h
    · replace h := (if_neg hc).symm.trans h
      refine x_goto (tgt := 3147) hX dL_law_1236 (by decide) ?_
      cases h
      exact x_wid (k2 := k + 5) (n2 := n + 30) (Nat.add_le_add_left (Nat.le_of_ble_eq_true rfl : 3 ≤ 5) _) (Nat.add_le_add_left (Nat.le_of_ble_eq_true rfl : 18 ≤ 30) _) (x_weak [true, true, true, true, true, false, false] rfl hE)
  · replace h := (if_neg hc).symm.trans h
    refine x_iconst hX dL_law_1217 ?_
    cases h

set_option maxRecDepth 100000 in
set_option maxHeartbeats 4000000 in
theorem law_17 {X : Cxt} (hX : Gd X RL cL_law 7 (some .boolean) 40) (hs : SOK (xG X)) (h3 : at_ (xG X) 157 4 1) {b Lx : Nat} {sx : Nat → Int} (hx : SX X b Lx sx) (x4 p1 p2 p3 p4 : Int) (b1 : inb (x4 + 1) Lx) (b2 : inb (x4 + 2) Lx) (b3 : inb (x4 + 3) Lx) (b4 : inb (x4 + 4) Lx) (e1 : sx (ix (x4 + 1)) = p1) (e2 : sx (ix (x4 + 2)) = p2) (e3 : sx (ix (x4 + 3)) = p3) (e4 : sx (ix (x4 + 4)) = p4) {k n : Nat} (hk : k + 5 ≤ (xR X).cells ∧ n + 30 ≤ (xR X).slots) {Q : State → Prop} (M Mr : Mem) (h : L_17 p1 p2 p3 p4 M = some Mr) (hE : V X (k + 5) (n + 30) Q 3147 [some (.ref b), some (vr (xG X) 0), some (vr (xG X) 139), some (vr (xG X) 157), some (vi x4), none, none] [] Mr) : V X k n Q 1239 [some (.ref b), some (vr (xG X) 0), some (vr (xG X) 139), some (vr (xG X) 157), some (vi x4), none, none] [] M := by
  unfold L_17 at h
  refine x_aloadn hX dL_law_1239 rfl ?_
  refine x_qload hX dL_law_1240 rfl ?_
  refine x_iload hX dL_law_1241 rfl ?_
  refine x_iconst hX dL_law_1243 ?_
  refine x_iadd hX dL_law_1244 ?_
  refine x_sld hX hx dL_law_1245 b1 e1 ?_
  refine x_aloadn hX dL_law_1246 rfl ?_
  obtain ⟨r_1, M_2, er_1, h⟩ := cl2_of h
  refine x_wS (As := [vr (xG X) 0, vi p1, vr (xG X) 157]) (rest := []) hX dL_law_1247 (c_L_addBatch (gk hX) (gl hX) hs h3 p1 M _ _ er_1) kL_addBatch w_1264 rfl rfl rfl (Nat.le_of_ble_eq_true rfl) ⟨Nat.le_trans (Nat.add_le_add_left (Nat.le_of_ble_eq_true rfl : 2 ≤ 5) _) hk.1, Nat.le_trans (Nat.add_le_add_left (Nat.le_of_ble_eq_true rfl : 12 ≤ 30) _) hk.2⟩ ?_
  show V X (k + 2) (n + 12) Q 1250 [some (.ref b), some (vr (xG X) 0), some (vr (xG X) 139), some (vr (xG X) 157), some (vi x4), none, none] [vi r_1] M_2
  refine x_istore (ls' := [some (.ref b), some (vr (xG X) 0), some (vr (xG X) 139), some (vr (xG X) 157), some (vi x4), some (vi r_1), none]) hX dL_law_1250 rfl rfl rfl ?_
  refine x_aloadn hX dL_law_1252 rfl ?_
  refine x_qload hX dL_law_1253 rfl ?_
  refine x_iload hX dL_law_1254 rfl ?_
  refine x_iconst hX dL_law_1256 ?_
  refine x_iadd hX dL_law_1257 ?_
  refine x_sld hX hx dL_law_1258 b1 e1 ?_
  obtain ⟨r_3, M_4, er_3, h⟩ := cl2_of h
  refine x_callVi (t := 11) (As := [vi p1]) (rest := []) hX dL_law_1259 (c_X12_addBatch (gk hX) (gl hX) hs p1 M_2 _ _ er_3) kX12_addBatch vX12_addBatch w_1919 (st139 hs) rfl rfl rfl rfl (Nat.le_of_ble_eq_true rfl) ⟨Nat.le_trans (Nat.add_le_add_left (Nat.le_of_ble_eq_true rfl : 2 ≤ 5) _) hk.1, Nat.le_trans (Nat.add_le_add_left (Nat.le_of_ble_eq_true rfl : 12 ≤ 30) _) hk.2⟩ ?_
  refine x_istore (ls' := [some (.ref b), some (vr (xG X) 0), some (vr (xG X) 139), some (vr (xG X) 157), some (vi x4), some (vi r_1), some (vi r_3)]) hX dL_law_1262 rfl rfl rfl ?_
  refine x_aloadn hX dL_law_1264 rfl ?_
  obtain ⟨r_5, er_5, h⟩ := cl1_of h
  refine x_callVi (t := 11) (As := []) (rest := []) hX dL_law_1265 (c_X12_thrown (gk hX) (gl hX) hs  M_4 _ er_5) kX12_thrown vX12_thrown w_1727 (st139 hs) rfl rfl rfl rfl (Nat.le_of_ble_eq_true rfl) ⟨Nat.le_trans (Nat.add_le_add_left (Nat.le_of_ble_eq_true rfl : 2 ≤ 5) _) hk.1, Nat.le_trans (Nat.add_le_add_left (Nat.le_of_ble_eq_true rfl : 12 ≤ 30) _) hk.2⟩ ?_
  refine x_iload hX dL_law_1268 rfl ?_
  refine x_icmp_eq (tgt := 1275) hX dL_law_1270 (by decide) rfl rfl (fun hc => ?_) (fun hc => ?_)
  · replace h := (if_pos hc).symm.trans h
    refine x_iload hX dL_law_1275 rfl ?_
    refine x_if_ne (tgt := 1292) hX dL_law_1277 (by decide) rfl (fun hc => ?_) (fun hc => ?_)
    · replace h := (if_pos hc).symm.trans h
      refine x_aloadn hX dL_law_1280 rfl ?_
      refine x_iconst hX dL_law_1281 ?_
      refine x_lald hX dL_law_1282 h3 inc_0_1 ixc_0 ?_
      refine x_iload hX dL_law_1283 rfl ?_
      refine x_i2l hX dL_law_1285 ?_
      refine x_lcmp hX dL_law_1286 ?_
      refine x_if_eq (tgt := 1292) hX dL_law_1287 (by decide) rfl (fun hc => ?_) (fun hc => ?_)
      · replace h := (if_pos hc).symm.trans h
        refine x_goto (tgt := 3147) hX dL_law_1292 (by decide) ?_
        cases h
        exact x_wid (k2 := k + 5) (n2 := n + 30) (Nat.add_le_add_left (Nat.le_of_ble_eq_true rfl : 2 ≤ 5) _) (Nat.add_le_add_left (Nat.le_of_ble_eq_true rfl : 12 ≤ 30) _) (x_weak [true, true, true, true, true, false, false] rfl hE)
      · replace h := (if_neg hc).symm.trans h
        refine x_iconst hX dL_law_1290 ?_
        cases h
    · replace h := (if_neg hc).symm.trans h
      refine x_goto (tgt := 3147) hX dL_law_1292 (by decide) ?_
      cases h
      exact x_wid (k2 := k + 5) (n2 := n + 30) (Nat.add_le_add_left (Nat.le_of_ble_eq_true rfl : 2 ≤ 5) _) (Nat.add_le_add_left (Nat.le_of_ble_eq_true rfl : 12 ≤ 30) _) (x_weak [true, true, true, true, true, false, false] rfl hE)
  · replace h := (if_neg hc).symm.trans h
    refine x_iconst hX dL_law_1273 ?_
    cases h

set_option maxRecDepth 100000 in
set_option maxHeartbeats 4000000 in
theorem law_18 {X : Cxt} (hX : Gd X RL cL_law 7 (some .boolean) 40) (hs : SOK (xG X)) (h3 : at_ (xG X) 157 4 1) {b Lx : Nat} {sx : Nat → Int} (hx : SX X b Lx sx) (x4 p1 p2 p3 p4 : Int) (b1 : inb (x4 + 1) Lx) (b2 : inb (x4 + 2) Lx) (b3 : inb (x4 + 3) Lx) (b4 : inb (x4 + 4) Lx) (e1 : sx (ix (x4 + 1)) = p1) (e2 : sx (ix (x4 + 2)) = p2) (e3 : sx (ix (x4 + 3)) = p3) (e4 : sx (ix (x4 + 4)) = p4) {k n : Nat} (hk : k + 5 ≤ (xR X).cells ∧ n + 30 ≤ (xR X).slots) {Q : State → Prop} (M Mr : Mem) (h : L_18 p1 p2 p3 p4 M = some Mr) (hE : V X (k + 5) (n + 30) Q 3147 [some (.ref b), some (vr (xG X) 0), some (vr (xG X) 139), some (vr (xG X) 157), some (vi x4), none, none] [] Mr) : V X k n Q 1295 [some (.ref b), some (vr (xG X) 0), some (vr (xG X) 139), some (vr (xG X) 157), some (vi x4), none, none] [] M := by
  unfold L_18 at h
  refine x_aloadn hX dL_law_1295 rfl ?_
  refine x_qload hX dL_law_1296 rfl ?_
  refine x_iload hX dL_law_1297 rfl ?_
  refine x_iconst hX dL_law_1299 ?_
  refine x_iadd hX dL_law_1300 ?_
  refine x_sld hX hx dL_law_1301 b1 e1 ?_
  refine x_aloadn hX dL_law_1302 rfl ?_
  obtain ⟨r_1, M_2, er_1, h⟩ := cl2_of h
  refine x_wS (As := [vr (xG X) 0, vi p1, vr (xG X) 157]) (rest := []) hX dL_law_1303 (c_L_dissolve (gk hX) (gl hX) hs h3 p1 M _ _ er_1) kL_dissolve w_1275 rfl rfl rfl (Nat.le_of_ble_eq_true rfl) ⟨Nat.le_trans (Nat.add_le_add_left (Nat.le_of_ble_eq_true rfl : 1 ≤ 5) _) hk.1, Nat.le_trans (Nat.add_le_add_left (Nat.le_of_ble_eq_true rfl : 6 ≤ 30) _) hk.2⟩ ?_
  show V X (k + 1) (n + 6) Q 1306 [some (.ref b), some (vr (xG X) 0), some (vr (xG X) 139), some (vr (xG X) 157), some (vi x4), none, none] [vi r_1] M_2
  refine x_istore (ls' := [some (.ref b), some (vr (xG X) 0), some (vr (xG X) 139), some (vr (xG X) 157), some (vi x4), some (vi r_1), none]) hX dL_law_1306 rfl rfl rfl ?_
  refine x_aloadn hX dL_law_1308 rfl ?_
  refine x_qload hX dL_law_1309 rfl ?_
  refine x_iload hX dL_law_1310 rfl ?_
  refine x_iconst hX dL_law_1312 ?_
  refine x_iadd hX dL_law_1313 ?_
  refine x_sld hX hx dL_law_1314 b1 e1 ?_
  obtain ⟨r_3, M_4, er_3, h⟩ := cl2_of h
  refine x_callVi (t := 11) (As := [vi p1]) (rest := []) hX dL_law_1315 (c_X12_dissolve (gk hX) (gl hX) hs p1 M_2 _ _ er_3) kX12_dissolve vX12_dissolve w_1927 (st139 hs) rfl rfl rfl rfl (Nat.le_of_ble_eq_true rfl) ⟨Nat.le_trans (Nat.add_le_add_left (Nat.le_of_ble_eq_true rfl : 1 ≤ 5) _) hk.1, Nat.le_trans (Nat.add_le_add_left (Nat.le_of_ble_eq_true rfl : 6 ≤ 30) _) hk.2⟩ ?_
  refine x_istore (ls' := [some (.ref b), some (vr (xG X) 0), some (vr (xG X) 139), some (vr (xG X) 157), some (vi x4), some (vi r_1), some (vi r_3)]) hX dL_law_1318 rfl rfl rfl ?_
  refine x_aloadn hX dL_law_1320 rfl ?_
  obtain ⟨r_5, er_5, h⟩ := cl1_of h
  refine x_callVi (t := 11) (As := []) (rest := []) hX dL_law_1321 (c_X12_thrown (gk hX) (gl hX) hs  M_4 _ er_5) kX12_thrown vX12_thrown w_1727 (st139 hs) rfl rfl rfl rfl (Nat.le_of_ble_eq_true rfl) ⟨Nat.le_trans (Nat.add_le_add_left (Nat.le_of_ble_eq_true rfl : 1 ≤ 5) _) hk.1, Nat.le_trans (Nat.add_le_add_left (Nat.le_of_ble_eq_true rfl : 6 ≤ 30) _) hk.2⟩ ?_
  refine x_iload hX dL_law_1324 rfl ?_
  refine x_icmp_eq (tgt := 1331) hX dL_law_1326 (by decide) rfl rfl (fun hc => ?_) (fun hc => ?_)
  · replace h := (if_pos hc).symm.trans h
    refine x_iload hX dL_law_1331 rfl ?_
    refine x_if_ne (tgt := 1348) hX dL_law_1333 (by decide) rfl (fun hc => ?_) (fun hc => ?_)
    · replace h := (if_pos hc).symm.trans h
      refine x_aloadn hX dL_law_1336 rfl ?_
      refine x_iconst hX dL_law_1337 ?_
      refine x_lald hX dL_law_1338 h3 inc_0_1 ixc_0 ?_
      refine x_iload hX dL_law_1339 rfl ?_
      refine x_i2l hX dL_law_1341 ?_
      refine x_lcmp hX dL_law_1342 ?_
      refine x_if_eq (tgt := 1348) hX dL_law_1343 (by decide) rfl (fun hc => ?_) (fun hc => ?_)
      · replace h := (if_pos hc).symm.trans h
        refine x_goto (tgt := 3147) hX dL_law_1348 (by decide) ?_
        cases h
        exact x_wid (k2 := k + 5) (n2 := n + 30) (Nat.add_le_add_left (Nat.le_of_ble_eq_true rfl : 1 ≤ 5) _) (Nat.add_le_add_left (Nat.le_of_ble_eq_true rfl : 6 ≤ 30) _) (x_weak [true, true, true, true, true, false, false] rfl hE)
      · replace h := (if_neg hc).symm.trans h
        refine x_iconst hX dL_law_1346 ?_
        cases h
    · replace h := (if_neg hc).symm.trans h
      refine x_goto (tgt := 3147) hX dL_law_1348 (by decide) ?_
      cases h
      exact x_wid (k2 := k + 5) (n2 := n + 30) (Nat.add_le_add_left (Nat.le_of_ble_eq_true rfl : 1 ≤ 5) _) (Nat.add_le_add_left (Nat.le_of_ble_eq_true rfl : 6 ≤ 30) _) (x_weak [true, true, true, true, true, false, false] rfl hE)
  · replace h := (if_neg hc).symm.trans h
    refine x_iconst hX dL_law_1329 ?_
    cases h

set_option maxRecDepth 100000 in
set_option maxHeartbeats 4000000 in
theorem law_19 {X : Cxt} (hX : Gd X RL cL_law 7 (some .boolean) 40) (hs : SOK (xG X)) (h3 : at_ (xG X) 157 4 1) {b Lx : Nat} {sx : Nat → Int} (hx : SX X b Lx sx) (x4 p1 p2 p3 p4 : Int) (b1 : inb (x4 + 1) Lx) (b2 : inb (x4 + 2) Lx) (b3 : inb (x4 + 3) Lx) (b4 : inb (x4 + 4) Lx) (e1 : sx (ix (x4 + 1)) = p1) (e2 : sx (ix (x4 + 2)) = p2) (e3 : sx (ix (x4 + 3)) = p3) (e4 : sx (ix (x4 + 4)) = p4) {k n : Nat} (hk : k + 5 ≤ (xR X).cells ∧ n + 30 ≤ (xR X).slots) {Q : State → Prop} (M Mr : Mem) (h : L_19 p1 p2 p3 p4 M = some Mr) (hE : V X (k + 5) (n + 30) Q 3147 [some (.ref b), some (vr (xG X) 0), some (vr (xG X) 139), some (vr (xG X) 157), some (vi x4), none, none] [] Mr) : V X k n Q 1351 [some (.ref b), some (vr (xG X) 0), some (vr (xG X) 139), some (vr (xG X) 157), some (vi x4), none, none] [] M := by
  unfold L_19 at h
  refine x_aloadn hX dL_law_1351 rfl ?_
  obtain ⟨r_1, er_1, h⟩ := cl1_of h
  refine x_callVi (t := 10) (As := []) (rest := []) hX dL_law_1352 (c_X11_batchCount (gk hX) (gl hX) hs  M _ er_1) kX11_batchCount vX11_batchCount w_596 (st0 hs) rfl rfl rfl rfl (Nat.le_of_ble_eq_true rfl) ⟨Nat.le_trans (Nat.add_le_add_left (Nat.le_of_ble_eq_true rfl : 0 ≤ 5) _) hk.1, Nat.le_trans (Nat.add_le_add_left (Nat.le_of_ble_eq_true rfl : 0 ≤ 30) _) hk.2⟩ ?_
  refine x_aloadn hX dL_law_1355 rfl ?_
  obtain ⟨r_3, M_4, er_3, h⟩ := cl2_of h
  refine x_callVi (t := 11) (As := []) (rest := [vi r_1]) hX dL_law_1356 (c_X12_batchCount (gk hX) (gl hX) hs  M _ _ er_3) kX12_batchCount vX12_batchCount w_1935 (st139 hs) rfl rfl rfl rfl (Nat.le_of_ble_eq_true rfl) ⟨Nat.le_trans (Nat.add_le_add_left (Nat.le_of_ble_eq_true rfl : 0 ≤ 5) _) hk.1, Nat.le_trans (Nat.add_le_add_left (Nat.le_of_ble_eq_true rfl : 0 ≤ 30) _) hk.2⟩ ?_
  refine x_icmp_eq (tgt := 3147) hX dL_law_1359 (by decide) rfl rfl (fun hc => ?_) (fun hc => ?_)
  · replace h := (if_pos hc).symm.trans h
    cases h
    exact x_wid (k2 := k + 5) (n2 := n + 30) (Nat.add_le_add_left (Nat.le_of_ble_eq_true rfl : 0 ≤ 5) _) (Nat.add_le_add_left (Nat.le_of_ble_eq_true rfl : 0 ≤ 30) _) (x_weak [true, true, true, true, true, false, false] rfl hE)
  · replace h := (if_neg hc).symm.trans h
    refine x_iconst hX dL_law_1362 ?_
    cases h

set_option maxRecDepth 100000 in
set_option maxHeartbeats 4000000 in
theorem law_20 {X : Cxt} (hX : Gd X RL cL_law 7 (some .boolean) 40) (hs : SOK (xG X)) (h3 : at_ (xG X) 157 4 1) {b Lx : Nat} {sx : Nat → Int} (hx : SX X b Lx sx) (x4 p1 p2 p3 p4 : Int) (b1 : inb (x4 + 1) Lx) (b2 : inb (x4 + 2) Lx) (b3 : inb (x4 + 3) Lx) (b4 : inb (x4 + 4) Lx) (e1 : sx (ix (x4 + 1)) = p1) (e2 : sx (ix (x4 + 2)) = p2) (e3 : sx (ix (x4 + 3)) = p3) (e4 : sx (ix (x4 + 4)) = p4) {k n : Nat} (hk : k + 5 ≤ (xR X).cells ∧ n + 30 ≤ (xR X).slots) {Q : State → Prop} (M Mr : Mem) (h : L_20 p1 p2 p3 p4 M = some Mr) (hE : V X (k + 5) (n + 30) Q 3147 [some (.ref b), some (vr (xG X) 0), some (vr (xG X) 139), some (vr (xG X) 157), some (vi x4), none, none] [] Mr) : V X k n Q 1364 [some (.ref b), some (vr (xG X) 0), some (vr (xG X) 139), some (vr (xG X) 157), some (vi x4), none, none] [] M := by
  unfold L_20 at h
  refine x_aloadn hX dL_law_1364 rfl ?_
  refine x_qload hX dL_law_1365 rfl ?_
  refine x_iload hX dL_law_1366 rfl ?_
  refine x_iconst hX dL_law_1368 ?_
  refine x_iadd hX dL_law_1369 ?_
  refine x_sld hX hx dL_law_1370 b1 e1 ?_
  refine x_aloadn hX dL_law_1371 rfl ?_
  obtain ⟨r_1, M_2, er_1, h⟩ := cl2_of h
  refine x_wS (As := [vr (xG X) 0, vi p1, vr (xG X) 157]) (rest := []) hX dL_law_1372 (c_L_batchOrders (gk hX) (gl hX) hs h3 p1 M _ _ er_1) kL_batchOrders w_1288 rfl rfl rfl (Nat.le_of_ble_eq_true rfl) ⟨Nat.le_trans (Nat.add_le_add_left (Nat.le_of_ble_eq_true rfl : 1 ≤ 5) _) hk.1, Nat.le_trans (Nat.add_le_add_left (Nat.le_of_ble_eq_true rfl : 6 ≤ 30) _) hk.2⟩ ?_
  show V X (k + 1) (n + 6) Q 1375 [some (.ref b), some (vr (xG X) 0), some (vr (xG X) 139), some (vr (xG X) 157), some (vi x4), none, none] [vi r_1] M_2
  refine x_istore (ls' := [some (.ref b), some (vr (xG X) 0), some (vr (xG X) 139), some (vr (xG X) 157), some (vi x4), some (vi r_1), none]) hX dL_law_1375 rfl rfl rfl ?_
  refine x_aloadn hX dL_law_1377 rfl ?_
  refine x_qload hX dL_law_1378 rfl ?_
  refine x_iload hX dL_law_1379 rfl ?_
  refine x_iconst hX dL_law_1381 ?_
  refine x_iadd hX dL_law_1382 ?_
  refine x_sld hX hx dL_law_1383 b1 e1 ?_
  obtain ⟨r_3, M_4, er_3, h⟩ := cl2_of h
  refine x_callVi (t := 11) (As := [vi p1]) (rest := []) hX dL_law_1384 (c_X12_batchOrders (gk hX) (gl hX) hs p1 M_2 _ _ er_3) kX12_batchOrders vX12_batchOrders w_1939 (st139 hs) rfl rfl rfl rfl (Nat.le_of_ble_eq_true rfl) ⟨Nat.le_trans (Nat.add_le_add_left (Nat.le_of_ble_eq_true rfl : 1 ≤ 5) _) hk.1, Nat.le_trans (Nat.add_le_add_left (Nat.le_of_ble_eq_true rfl : 6 ≤ 30) _) hk.2⟩ ?_
  refine x_istore (ls' := [some (.ref b), some (vr (xG X) 0), some (vr (xG X) 139), some (vr (xG X) 157), some (vi x4), some (vi r_1), some (vi r_3)]) hX dL_law_1387 rfl rfl rfl ?_
  refine x_aloadn hX dL_law_1389 rfl ?_
  obtain ⟨r_5, er_5, h⟩ := cl1_of h
  refine x_callVi (t := 11) (As := []) (rest := []) hX dL_law_1390 (c_X12_thrown (gk hX) (gl hX) hs  M_4 _ er_5) kX12_thrown vX12_thrown w_1727 (st139 hs) rfl rfl rfl rfl (Nat.le_of_ble_eq_true rfl) ⟨Nat.le_trans (Nat.add_le_add_left (Nat.le_of_ble_eq_true rfl : 1 ≤ 5) _) hk.1, Nat.le_trans (Nat.add_le_add_left (Nat.le_of_ble_eq_true rfl : 6 ≤ 30) _) hk.2⟩ ?_
  refine x_iload hX dL_law_1393 rfl ?_
  refine x_icmp_eq (tgt := 1400) hX dL_law_1395 (by decide) rfl rfl (fun hc => ?_) (fun hc => ?_)
  · replace h := (if_pos hc).symm.trans h
    refine x_iload hX dL_law_1400 rfl ?_
    refine x_if_ne (tgt := 1417) hX dL_law_1402 (by decide) rfl (fun hc => ?_) (fun hc => ?_)
    · replace h := (if_pos hc).symm.trans h
      refine x_aloadn hX dL_law_1405 rfl ?_
      refine x_iconst hX dL_law_1406 ?_
      refine x_lald hX dL_law_1407 h3 inc_0_1 ixc_0 ?_
      refine x_iload hX dL_law_1408 rfl ?_
      refine x_i2l hX dL_law_1410 ?_
      refine x_lcmp hX dL_law_1411 ?_
      refine x_if_eq (tgt := 1417) hX dL_law_1412 (by decide) rfl (fun hc => ?_) (fun hc => ?_)
      · replace h := (if_pos hc).symm.trans h
        refine x_goto (tgt := 3147) hX dL_law_1417 (by decide) ?_
        cases h
        exact x_wid (k2 := k + 5) (n2 := n + 30) (Nat.add_le_add_left (Nat.le_of_ble_eq_true rfl : 1 ≤ 5) _) (Nat.add_le_add_left (Nat.le_of_ble_eq_true rfl : 6 ≤ 30) _) (x_weak [true, true, true, true, true, false, false] rfl hE)
      · replace h := (if_neg hc).symm.trans h
        refine x_iconst hX dL_law_1415 ?_
        cases h
    · replace h := (if_neg hc).symm.trans h
      refine x_goto (tgt := 3147) hX dL_law_1417 (by decide) ?_
      cases h
      exact x_wid (k2 := k + 5) (n2 := n + 30) (Nat.add_le_add_left (Nat.le_of_ble_eq_true rfl : 1 ≤ 5) _) (Nat.add_le_add_left (Nat.le_of_ble_eq_true rfl : 6 ≤ 30) _) (x_weak [true, true, true, true, true, false, false] rfl hE)
  · replace h := (if_neg hc).symm.trans h
    refine x_iconst hX dL_law_1398 ?_
    cases h

set_option maxRecDepth 100000 in
set_option maxHeartbeats 4000000 in
theorem law_21 {X : Cxt} (hX : Gd X RL cL_law 7 (some .boolean) 40) (hs : SOK (xG X)) (h3 : at_ (xG X) 157 4 1) {b Lx : Nat} {sx : Nat → Int} (hx : SX X b Lx sx) (x4 p1 p2 p3 p4 : Int) (b1 : inb (x4 + 1) Lx) (b2 : inb (x4 + 2) Lx) (b3 : inb (x4 + 3) Lx) (b4 : inb (x4 + 4) Lx) (e1 : sx (ix (x4 + 1)) = p1) (e2 : sx (ix (x4 + 2)) = p2) (e3 : sx (ix (x4 + 3)) = p3) (e4 : sx (ix (x4 + 4)) = p4) {k n : Nat} (hk : k + 5 ≤ (xR X).cells ∧ n + 30 ≤ (xR X).slots) {Q : State → Prop} (M Mr : Mem) (h : L_21 p1 p2 p3 p4 M = some Mr) (hE : V X (k + 5) (n + 30) Q 3147 [some (.ref b), some (vr (xG X) 0), some (vr (xG X) 139), some (vr (xG X) 157), some (vi x4), none, none] [] Mr) : V X k n Q 1420 [some (.ref b), some (vr (xG X) 0), some (vr (xG X) 139), some (vr (xG X) 157), some (vi x4), none, none] [] M := by
  unfold L_21 at h
  refine x_aloadn hX dL_law_1420 rfl ?_
  refine x_qload hX dL_law_1421 rfl ?_
  refine x_iload hX dL_law_1422 rfl ?_
  refine x_iconst hX dL_law_1424 ?_
  refine x_iadd hX dL_law_1425 ?_
  refine x_sld hX hx dL_law_1426 b1 e1 ?_
  refine x_aloadn hX dL_law_1427 rfl ?_
  obtain ⟨r_1, M_2, er_1, h⟩ := cl2_of h
  refine x_wS (As := [vr (xG X) 0, vi p1, vr (xG X) 157]) (rest := []) hX dL_law_1428 (c_L_batchWeight (gk hX) (gl hX) hs h3 p1 M _ _ er_1) kL_batchWeight w_1295 rfl rfl rfl (Nat.le_of_ble_eq_true rfl) ⟨Nat.le_trans (Nat.add_le_add_left (Nat.le_of_ble_eq_true rfl : 1 ≤ 5) _) hk.1, Nat.le_trans (Nat.add_le_add_left (Nat.le_of_ble_eq_true rfl : 6 ≤ 30) _) hk.2⟩ ?_
  show V X (k + 1) (n + 6) Q 1431 [some (.ref b), some (vr (xG X) 0), some (vr (xG X) 139), some (vr (xG X) 157), some (vi x4), none, none] [vi r_1] M_2
  refine x_istore (ls' := [some (.ref b), some (vr (xG X) 0), some (vr (xG X) 139), some (vr (xG X) 157), some (vi x4), some (vi r_1), none]) hX dL_law_1431 rfl rfl rfl ?_
  refine x_aloadn hX dL_law_1433 rfl ?_
  refine x_qload hX dL_law_1434 rfl ?_
  refine x_iload hX dL_law_1435 rfl ?_
  refine x_iconst hX dL_law_1437 ?_
  refine x_iadd hX dL_law_1438 ?_
  refine x_sld hX hx dL_law_1439 b1 e1 ?_
  obtain ⟨r_3, M_4, er_3, h⟩ := cl2_of h
  refine x_callVi (t := 11) (As := [vi p1]) (rest := []) hX dL_law_1440 (c_X12_batchWeight (gk hX) (gl hX) hs p1 M_2 _ _ er_3) kX12_batchWeight vX12_batchWeight w_1943 (st139 hs) rfl rfl rfl rfl (Nat.le_of_ble_eq_true rfl) ⟨Nat.le_trans (Nat.add_le_add_left (Nat.le_of_ble_eq_true rfl : 1 ≤ 5) _) hk.1, Nat.le_trans (Nat.add_le_add_left (Nat.le_of_ble_eq_true rfl : 6 ≤ 30) _) hk.2⟩ ?_
  refine x_istore (ls' := [some (.ref b), some (vr (xG X) 0), some (vr (xG X) 139), some (vr (xG X) 157), some (vi x4), some (vi r_1), some (vi r_3)]) hX dL_law_1443 rfl rfl rfl ?_
  refine x_aloadn hX dL_law_1445 rfl ?_
  obtain ⟨r_5, er_5, h⟩ := cl1_of h
  refine x_callVi (t := 11) (As := []) (rest := []) hX dL_law_1446 (c_X12_thrown (gk hX) (gl hX) hs  M_4 _ er_5) kX12_thrown vX12_thrown w_1727 (st139 hs) rfl rfl rfl rfl (Nat.le_of_ble_eq_true rfl) ⟨Nat.le_trans (Nat.add_le_add_left (Nat.le_of_ble_eq_true rfl : 1 ≤ 5) _) hk.1, Nat.le_trans (Nat.add_le_add_left (Nat.le_of_ble_eq_true rfl : 6 ≤ 30) _) hk.2⟩ ?_
  refine x_iload hX dL_law_1449 rfl ?_
  refine x_icmp_eq (tgt := 1456) hX dL_law_1451 (by decide) rfl rfl (fun hc => ?_) (fun hc => ?_)
  · replace h := (if_pos hc).symm.trans h
    refine x_iload hX dL_law_1456 rfl ?_
    refine x_if_ne (tgt := 1473) hX dL_law_1458 (by decide) rfl (fun hc => ?_) (fun hc => ?_)
    · replace h := (if_pos hc).symm.trans h
      refine x_aloadn hX dL_law_1461 rfl ?_
      refine x_iconst hX dL_law_1462 ?_
      refine x_lald hX dL_law_1463 h3 inc_0_1 ixc_0 ?_
      refine x_iload hX dL_law_1464 rfl ?_
      refine x_i2l hX dL_law_1466 ?_
      refine x_lcmp hX dL_law_1467 ?_
      refine x_if_eq (tgt := 1473) hX dL_law_1468 (by decide) rfl (fun hc => ?_) (fun hc => ?_)
      · replace h := (if_pos hc).symm.trans h
        refine x_goto (tgt := 3147) hX dL_law_1473 (by decide) ?_
        cases h
        exact x_wid (k2 := k + 5) (n2 := n + 30) (Nat.add_le_add_left (Nat.le_of_ble_eq_true rfl : 1 ≤ 5) _) (Nat.add_le_add_left (Nat.le_of_ble_eq_true rfl : 6 ≤ 30) _) (x_weak [true, true, true, true, true, false, false] rfl hE)
      · replace h := (if_neg hc).symm.trans h
        refine x_iconst hX dL_law_1471 ?_
        cases h
    · replace h := (if_neg hc).symm.trans h
      refine x_goto (tgt := 3147) hX dL_law_1473 (by decide) ?_
      cases h
      exact x_wid (k2 := k + 5) (n2 := n + 30) (Nat.add_le_add_left (Nat.le_of_ble_eq_true rfl : 1 ≤ 5) _) (Nat.add_le_add_left (Nat.le_of_ble_eq_true rfl : 6 ≤ 30) _) (x_weak [true, true, true, true, true, false, false] rfl hE)
  · replace h := (if_neg hc).symm.trans h
    refine x_iconst hX dL_law_1454 ?_
    cases h

set_option maxRecDepth 100000 in
set_option maxHeartbeats 4000000 in
theorem law_22 {X : Cxt} (hX : Gd X RL cL_law 7 (some .boolean) 40) (hs : SOK (xG X)) (h3 : at_ (xG X) 157 4 1) {b Lx : Nat} {sx : Nat → Int} (hx : SX X b Lx sx) (x4 p1 p2 p3 p4 : Int) (b1 : inb (x4 + 1) Lx) (b2 : inb (x4 + 2) Lx) (b3 : inb (x4 + 3) Lx) (b4 : inb (x4 + 4) Lx) (e1 : sx (ix (x4 + 1)) = p1) (e2 : sx (ix (x4 + 2)) = p2) (e3 : sx (ix (x4 + 3)) = p3) (e4 : sx (ix (x4 + 4)) = p4) {k n : Nat} (hk : k + 5 ≤ (xR X).cells ∧ n + 30 ≤ (xR X).slots) {Q : State → Prop} (M Mr : Mem) (h : L_22 p1 p2 p3 p4 M = some Mr) (hE : V X (k + 5) (n + 30) Q 3147 [some (.ref b), some (vr (xG X) 0), some (vr (xG X) 139), some (vr (xG X) 157), some (vi x4), none, none] [] Mr) : V X k n Q 1476 [some (.ref b), some (vr (xG X) 0), some (vr (xG X) 139), some (vr (xG X) 157), some (vi x4), none, none] [] M := by
  unfold L_22 at h
  refine x_aloadn hX dL_law_1476 rfl ?_
  refine x_qload hX dL_law_1477 rfl ?_
  refine x_iload hX dL_law_1478 rfl ?_
  refine x_iconst hX dL_law_1480 ?_
  refine x_iadd hX dL_law_1481 ?_
  refine x_sld hX hx dL_law_1482 b1 e1 ?_
  refine x_qload hX dL_law_1483 rfl ?_
  refine x_iload hX dL_law_1484 rfl ?_
  refine x_iconst hX dL_law_1486 ?_
  refine x_iadd hX dL_law_1487 ?_
  refine x_sld hX hx dL_law_1488 b2 e2 ?_
  refine x_aloadn hX dL_law_1489 rfl ?_
  obtain ⟨r_1, M_2, er_1, h⟩ := cl2_of h
  refine x_wS (As := [vr (xG X) 0, vi p1, vi p2, vr (xG X) 157]) (rest := []) hX dL_law_1490 (c_L_improve (gk hX) (gl hX) hs h3 p1 p2 M _ _ er_1) kL_improve w_1303 rfl rfl rfl (Nat.le_of_ble_eq_true rfl) ⟨Nat.le_trans (Nat.add_le_add_left (Nat.le_of_ble_eq_true rfl : 2 ≤ 5) _) hk.1, Nat.le_trans (Nat.add_le_add_left (Nat.le_of_ble_eq_true rfl : 12 ≤ 30) _) hk.2⟩ ?_
  show V X (k + 2) (n + 12) Q 1493 [some (.ref b), some (vr (xG X) 0), some (vr (xG X) 139), some (vr (xG X) 157), some (vi x4), none, none] [vi r_1] M_2
  refine x_istore (ls' := [some (.ref b), some (vr (xG X) 0), some (vr (xG X) 139), some (vr (xG X) 157), some (vi x4), some (vi r_1), none]) hX dL_law_1493 rfl rfl rfl ?_
  refine x_aloadn hX dL_law_1495 rfl ?_
  refine x_qload hX dL_law_1496 rfl ?_
  refine x_iload hX dL_law_1497 rfl ?_
  refine x_iconst hX dL_law_1499 ?_
  refine x_iadd hX dL_law_1500 ?_
  refine x_sld hX hx dL_law_1501 b1 e1 ?_
  refine x_qload hX dL_law_1502 rfl ?_
  refine x_iload hX dL_law_1503 rfl ?_
  refine x_iconst hX dL_law_1505 ?_
  refine x_iadd hX dL_law_1506 ?_
  refine x_sld hX hx dL_law_1507 b2 e2 ?_
  obtain ⟨r_3, M_4, er_3, h⟩ := cl2_of h
  refine x_callVi (t := 11) (As := [vi p1, vi p2]) (rest := []) hX dL_law_1508 (c_X12_improve (gk hX) (gl hX) hs p1 p2 M_2 _ _ er_3) kX12_improve vX12_improve w_1947 (st139 hs) rfl rfl rfl rfl (Nat.le_of_ble_eq_true rfl) ⟨Nat.le_trans (Nat.add_le_add_left (Nat.le_of_ble_eq_true rfl : 2 ≤ 5) _) hk.1, Nat.le_trans (Nat.add_le_add_left (Nat.le_of_ble_eq_true rfl : 12 ≤ 30) _) hk.2⟩ ?_
  refine x_istore (ls' := [some (.ref b), some (vr (xG X) 0), some (vr (xG X) 139), some (vr (xG X) 157), some (vi x4), some (vi r_1), some (vi r_3)]) hX dL_law_1511 rfl rfl rfl ?_
  refine x_aloadn hX dL_law_1513 rfl ?_
  obtain ⟨r_5, er_5, h⟩ := cl1_of h
  refine x_callVi (t := 11) (As := []) (rest := []) hX dL_law_1514 (c_X12_thrown (gk hX) (gl hX) hs  M_4 _ er_5) kX12_thrown vX12_thrown w_1727 (st139 hs) rfl rfl rfl rfl (Nat.le_of_ble_eq_true rfl) ⟨Nat.le_trans (Nat.add_le_add_left (Nat.le_of_ble_eq_true rfl : 2 ≤ 5) _) hk.1, Nat.le_trans (Nat.add_le_add_left (Nat.le_of_ble_eq_true rfl : 12 ≤ 30) _) hk.2⟩ ?_
  refine x_iload hX dL_law_1517 rfl ?_
  refine x_icmp_eq (tgt := 1524) hX dL_law_1519 (by decide) rfl rfl (fun hc => ?_) (fun hc => ?_)
  · replace h := (if_pos hc).symm.trans h
    refine x_iload hX dL_law_1524 rfl ?_
    refine x_if_ne (tgt := 1541) hX dL_law_1526 (by decide) rfl (fun hc => ?_) (fun hc => ?_)
    · replace h := (if_pos hc).symm.trans h
      refine x_aloadn hX dL_law_1529 rfl ?_
      refine x_iconst hX dL_law_1530 ?_
      refine x_lald hX dL_law_1531 h3 inc_0_1 ixc_0 ?_
      refine x_iload hX dL_law_1532 rfl ?_
      refine x_i2l hX dL_law_1534 ?_
      refine x_lcmp hX dL_law_1535 ?_
      refine x_if_eq (tgt := 1541) hX dL_law_1536 (by decide) rfl (fun hc => ?_) (fun hc => ?_)
      · replace h := (if_pos hc).symm.trans h
        refine x_goto (tgt := 3147) hX dL_law_1541 (by decide) ?_
        cases h
        exact x_wid (k2 := k + 5) (n2 := n + 30) (Nat.add_le_add_left (Nat.le_of_ble_eq_true rfl : 2 ≤ 5) _) (Nat.add_le_add_left (Nat.le_of_ble_eq_true rfl : 12 ≤ 30) _) (x_weak [true, true, true, true, true, false, false] rfl hE)
      · replace h := (if_neg hc).symm.trans h
        refine x_iconst hX dL_law_1539 ?_
        cases h
    · replace h := (if_neg hc).symm.trans h
      refine x_goto (tgt := 3147) hX dL_law_1541 (by decide) ?_
      cases h
      exact x_wid (k2 := k + 5) (n2 := n + 30) (Nat.add_le_add_left (Nat.le_of_ble_eq_true rfl : 2 ≤ 5) _) (Nat.add_le_add_left (Nat.le_of_ble_eq_true rfl : 12 ≤ 30) _) (x_weak [true, true, true, true, true, false, false] rfl hE)
  · replace h := (if_neg hc).symm.trans h
    refine x_iconst hX dL_law_1522 ?_
    cases h

set_option maxRecDepth 100000 in
set_option maxHeartbeats 4000000 in
theorem law_23 {X : Cxt} (hX : Gd X RL cL_law 7 (some .boolean) 40) (hs : SOK (xG X)) (h3 : at_ (xG X) 157 4 1) {b Lx : Nat} {sx : Nat → Int} (hx : SX X b Lx sx) (x4 p1 p2 p3 p4 : Int) (b1 : inb (x4 + 1) Lx) (b2 : inb (x4 + 2) Lx) (b3 : inb (x4 + 3) Lx) (b4 : inb (x4 + 4) Lx) (e1 : sx (ix (x4 + 1)) = p1) (e2 : sx (ix (x4 + 2)) = p2) (e3 : sx (ix (x4 + 3)) = p3) (e4 : sx (ix (x4 + 4)) = p4) {k n : Nat} (hk : k + 5 ≤ (xR X).cells ∧ n + 30 ≤ (xR X).slots) {Q : State → Prop} (M Mr : Mem) (h : L_23 p1 p2 p3 p4 M = some Mr) (hE : V X (k + 5) (n + 30) Q 3147 [some (.ref b), some (vr (xG X) 0), some (vr (xG X) 139), some (vr (xG X) 157), some (vi x4), none, none] [] Mr) : V X k n Q 1544 [some (.ref b), some (vr (xG X) 0), some (vr (xG X) 139), some (vr (xG X) 157), some (vi x4), none, none] [] M := by
  unfold L_23 at h
  refine x_aloadn hX dL_law_1544 rfl ?_
  refine x_qload hX dL_law_1545 rfl ?_
  refine x_iload hX dL_law_1546 rfl ?_
  refine x_iconst hX dL_law_1548 ?_
  refine x_iadd hX dL_law_1549 ?_
  refine x_sld hX hx dL_law_1550 b1 e1 ?_
  refine x_aloadn hX dL_law_1551 rfl ?_
  obtain ⟨r_1, M_2, er_1, h⟩ := cl2_of h
  refine x_wS (As := [vr (xG X) 0, vi p1, vr (xG X) 157]) (rest := []) hX dL_law_1552 (c_L_sortBatches (gk hX) (gl hX) hs h3 p1 M _ _ er_1) kL_sortBatches w_1334 rfl rfl rfl (Nat.le_of_ble_eq_true rfl) ⟨Nat.le_trans (Nat.add_le_add_left (Nat.le_of_ble_eq_true rfl : 2 ≤ 5) _) hk.1, Nat.le_trans (Nat.add_le_add_left (Nat.le_of_ble_eq_true rfl : 12 ≤ 30) _) hk.2⟩ ?_
  show V X (k + 2) (n + 12) Q 1555 [some (.ref b), some (vr (xG X) 0), some (vr (xG X) 139), some (vr (xG X) 157), some (vi x4), none, none] [vi r_1] M_2
  refine x_istore (ls' := [some (.ref b), some (vr (xG X) 0), some (vr (xG X) 139), some (vr (xG X) 157), some (vi x4), some (vi r_1), none]) hX dL_law_1555 rfl rfl rfl ?_
  refine x_aloadn hX dL_law_1557 rfl ?_
  refine x_qload hX dL_law_1558 rfl ?_
  refine x_iload hX dL_law_1559 rfl ?_
  refine x_iconst hX dL_law_1561 ?_
  refine x_iadd hX dL_law_1562 ?_
  refine x_sld hX hx dL_law_1563 b1 e1 ?_
  obtain ⟨r_3, M_4, er_3, h⟩ := cl2_of h
  refine x_callVi (t := 11) (As := [vi p1]) (rest := []) hX dL_law_1564 (c_X12_sortBatches (gk hX) (gl hX) hs p1 M_2 _ _ er_3) kX12_sortBatches vX12_sortBatches w_2189 (st139 hs) rfl rfl rfl rfl (Nat.le_of_ble_eq_true rfl) ⟨Nat.le_trans (Nat.add_le_add_left (Nat.le_of_ble_eq_true rfl : 2 ≤ 5) _) hk.1, Nat.le_trans (Nat.add_le_add_left (Nat.le_of_ble_eq_true rfl : 12 ≤ 30) _) hk.2⟩ ?_
  refine x_istore (ls' := [some (.ref b), some (vr (xG X) 0), some (vr (xG X) 139), some (vr (xG X) 157), some (vi x4), some (vi r_1), some (vi r_3)]) hX dL_law_1567 rfl rfl rfl ?_
  refine x_aloadn hX dL_law_1569 rfl ?_
  obtain ⟨r_5, er_5, h⟩ := cl1_of h
  refine x_callVi (t := 11) (As := []) (rest := []) hX dL_law_1570 (c_X12_thrown (gk hX) (gl hX) hs  M_4 _ er_5) kX12_thrown vX12_thrown w_1727 (st139 hs) rfl rfl rfl rfl (Nat.le_of_ble_eq_true rfl) ⟨Nat.le_trans (Nat.add_le_add_left (Nat.le_of_ble_eq_true rfl : 2 ≤ 5) _) hk.1, Nat.le_trans (Nat.add_le_add_left (Nat.le_of_ble_eq_true rfl : 12 ≤ 30) _) hk.2⟩ ?_
  refine x_iload hX dL_law_1573 rfl ?_
  refine x_icmp_eq (tgt := 1580) hX dL_law_1575 (by decide) rfl rfl (fun hc => ?_) (fun hc => ?_)
  · replace h := (if_pos hc).symm.trans h
    refine x_iload hX dL_law_1580 rfl ?_
    refine x_if_ne (tgt := 1597) hX dL_law_1582 (by decide) rfl (fun hc => ?_) (fun hc => ?_)
    · replace h := (if_pos hc).symm.trans h
      refine x_aloadn hX dL_law_1585 rfl ?_
      refine x_iconst hX dL_law_1586 ?_
      refine x_lald hX dL_law_1587 h3 inc_0_1 ixc_0 ?_
      refine x_iload hX dL_law_1588 rfl ?_
      refine x_i2l hX dL_law_1590 ?_
      refine x_lcmp hX dL_law_1591 ?_
      refine x_if_eq (tgt := 1597) hX dL_law_1592 (by decide) rfl (fun hc => ?_) (fun hc => ?_)
      · replace h := (if_pos hc).symm.trans h
        refine x_goto (tgt := 3147) hX dL_law_1597 (by decide) ?_
        cases h
        exact x_wid (k2 := k + 5) (n2 := n + 30) (Nat.add_le_add_left (Nat.le_of_ble_eq_true rfl : 2 ≤ 5) _) (Nat.add_le_add_left (Nat.le_of_ble_eq_true rfl : 12 ≤ 30) _) (x_weak [true, true, true, true, true, false, false] rfl hE)
      · replace h := (if_neg hc).symm.trans h
        refine x_iconst hX dL_law_1595 ?_
        cases h
    · replace h := (if_neg hc).symm.trans h
      refine x_goto (tgt := 3147) hX dL_law_1597 (by decide) ?_
      cases h
      exact x_wid (k2 := k + 5) (n2 := n + 30) (Nat.add_le_add_left (Nat.le_of_ble_eq_true rfl : 2 ≤ 5) _) (Nat.add_le_add_left (Nat.le_of_ble_eq_true rfl : 12 ≤ 30) _) (x_weak [true, true, true, true, true, false, false] rfl hE)
  · replace h := (if_neg hc).symm.trans h
    refine x_iconst hX dL_law_1578 ?_
    cases h

set_option maxRecDepth 100000 in
set_option maxHeartbeats 4000000 in
theorem law_24 {X : Cxt} (hX : Gd X RL cL_law 7 (some .boolean) 40) (hs : SOK (xG X)) (h3 : at_ (xG X) 157 4 1) {b Lx : Nat} {sx : Nat → Int} (hx : SX X b Lx sx) (x4 p1 p2 p3 p4 : Int) (b1 : inb (x4 + 1) Lx) (b2 : inb (x4 + 2) Lx) (b3 : inb (x4 + 3) Lx) (b4 : inb (x4 + 4) Lx) (e1 : sx (ix (x4 + 1)) = p1) (e2 : sx (ix (x4 + 2)) = p2) (e3 : sx (ix (x4 + 3)) = p3) (e4 : sx (ix (x4 + 4)) = p4) {k n : Nat} (hk : k + 5 ≤ (xR X).cells ∧ n + 30 ≤ (xR X).slots) {Q : State → Prop} (M Mr : Mem) (h : L_24 p1 p2 p3 p4 M = some Mr) (hE : V X (k + 5) (n + 30) Q 3147 [some (.ref b), some (vr (xG X) 0), some (vr (xG X) 139), some (vr (xG X) 157), some (vi x4), none, none] [] Mr) : V X k n Q 1600 [some (.ref b), some (vr (xG X) 0), some (vr (xG X) 139), some (vr (xG X) 157), some (vi x4), none, none] [] M := by
  unfold L_24 at h
  refine x_aloadn hX dL_law_1600 rfl ?_
  refine x_qload hX dL_law_1601 rfl ?_
  refine x_iload hX dL_law_1602 rfl ?_
  refine x_iconst hX dL_law_1604 ?_
  refine x_iadd hX dL_law_1605 ?_
  refine x_sld hX hx dL_law_1606 b1 e1 ?_
  refine x_aloadn hX dL_law_1607 rfl ?_
  obtain ⟨r_1, M_2, er_1, h⟩ := cl2_of h
  refine x_wS (As := [vr (xG X) 0, vi p1, vr (xG X) 157]) (rest := []) hX dL_law_1608 (c_L_setPolicy (gk hX) (gl hX) hs h3 p1 M _ _ er_1) kL_setPolicy w_1377 rfl rfl rfl (Nat.le_of_ble_eq_true rfl) ⟨Nat.le_trans (Nat.add_le_add_left (Nat.le_of_ble_eq_true rfl : 1 ≤ 5) _) hk.1, Nat.le_trans (Nat.add_le_add_left (Nat.le_of_ble_eq_true rfl : 6 ≤ 30) _) hk.2⟩ ?_
  show V X (k + 1) (n + 6) Q 1611 [some (.ref b), some (vr (xG X) 0), some (vr (xG X) 139), some (vr (xG X) 157), some (vi x4), none, none] [vi r_1] M_2
  refine x_istore (ls' := [some (.ref b), some (vr (xG X) 0), some (vr (xG X) 139), some (vr (xG X) 157), some (vi x4), some (vi r_1), none]) hX dL_law_1611 rfl rfl rfl ?_
  refine x_aloadn hX dL_law_1613 rfl ?_
  refine x_qload hX dL_law_1614 rfl ?_
  refine x_iload hX dL_law_1615 rfl ?_
  refine x_iconst hX dL_law_1617 ?_
  refine x_iadd hX dL_law_1618 ?_
  refine x_sld hX hx dL_law_1619 b1 e1 ?_
  obtain ⟨r_3, M_4, er_3, h⟩ := cl2_of h
  refine x_callVi (t := 11) (As := [vi p1]) (rest := []) hX dL_law_1620 (c_X12_setPolicy (gk hX) (gl hX) hs p1 M_2 _ _ er_3) kX12_setPolicy vX12_setPolicy w_2027 (st139 hs) rfl rfl rfl rfl (Nat.le_of_ble_eq_true rfl) ⟨Nat.le_trans (Nat.add_le_add_left (Nat.le_of_ble_eq_true rfl : 1 ≤ 5) _) hk.1, Nat.le_trans (Nat.add_le_add_left (Nat.le_of_ble_eq_true rfl : 6 ≤ 30) _) hk.2⟩ ?_
  refine x_istore (ls' := [some (.ref b), some (vr (xG X) 0), some (vr (xG X) 139), some (vr (xG X) 157), some (vi x4), some (vi r_1), some (vi r_3)]) hX dL_law_1623 rfl rfl rfl ?_
  refine x_aloadn hX dL_law_1625 rfl ?_
  obtain ⟨r_5, er_5, h⟩ := cl1_of h
  refine x_callVi (t := 11) (As := []) (rest := []) hX dL_law_1626 (c_X12_thrown (gk hX) (gl hX) hs  M_4 _ er_5) kX12_thrown vX12_thrown w_1727 (st139 hs) rfl rfl rfl rfl (Nat.le_of_ble_eq_true rfl) ⟨Nat.le_trans (Nat.add_le_add_left (Nat.le_of_ble_eq_true rfl : 1 ≤ 5) _) hk.1, Nat.le_trans (Nat.add_le_add_left (Nat.le_of_ble_eq_true rfl : 6 ≤ 30) _) hk.2⟩ ?_
  refine x_iload hX dL_law_1629 rfl ?_
  refine x_icmp_eq (tgt := 1636) hX dL_law_1631 (by decide) rfl rfl (fun hc => ?_) (fun hc => ?_)
  · replace h := (if_pos hc).symm.trans h
    refine x_iload hX dL_law_1636 rfl ?_
    refine x_if_ne (tgt := 1653) hX dL_law_1638 (by decide) rfl (fun hc => ?_) (fun hc => ?_)
    · replace h := (if_pos hc).symm.trans h
      refine x_aloadn hX dL_law_1641 rfl ?_
      refine x_iconst hX dL_law_1642 ?_
      refine x_lald hX dL_law_1643 h3 inc_0_1 ixc_0 ?_
      refine x_iload hX dL_law_1644 rfl ?_
      refine x_i2l hX dL_law_1646 ?_
      refine x_lcmp hX dL_law_1647 ?_
      refine x_if_eq (tgt := 1653) hX dL_law_1648 (by decide) rfl (fun hc => ?_) (fun hc => ?_)
      · replace h := (if_pos hc).symm.trans h
        refine x_goto (tgt := 3147) hX dL_law_1653 (by decide) ?_
        cases h
        exact x_wid (k2 := k + 5) (n2 := n + 30) (Nat.add_le_add_left (Nat.le_of_ble_eq_true rfl : 1 ≤ 5) _) (Nat.add_le_add_left (Nat.le_of_ble_eq_true rfl : 6 ≤ 30) _) (x_weak [true, true, true, true, true, false, false] rfl hE)
      · replace h := (if_neg hc).symm.trans h
        refine x_iconst hX dL_law_1651 ?_
        cases h
    · replace h := (if_neg hc).symm.trans h
      refine x_goto (tgt := 3147) hX dL_law_1653 (by decide) ?_
      cases h
      exact x_wid (k2 := k + 5) (n2 := n + 30) (Nat.add_le_add_left (Nat.le_of_ble_eq_true rfl : 1 ≤ 5) _) (Nat.add_le_add_left (Nat.le_of_ble_eq_true rfl : 6 ≤ 30) _) (x_weak [true, true, true, true, true, false, false] rfl hE)
  · replace h := (if_neg hc).symm.trans h
    refine x_iconst hX dL_law_1634 ?_
    cases h

set_option maxRecDepth 100000 in
set_option maxHeartbeats 4000000 in
theorem law_25 {X : Cxt} (hX : Gd X RL cL_law 7 (some .boolean) 40) (hs : SOK (xG X)) (h3 : at_ (xG X) 157 4 1) {b Lx : Nat} {sx : Nat → Int} (hx : SX X b Lx sx) (x4 p1 p2 p3 p4 : Int) (b1 : inb (x4 + 1) Lx) (b2 : inb (x4 + 2) Lx) (b3 : inb (x4 + 3) Lx) (b4 : inb (x4 + 4) Lx) (e1 : sx (ix (x4 + 1)) = p1) (e2 : sx (ix (x4 + 2)) = p2) (e3 : sx (ix (x4 + 3)) = p3) (e4 : sx (ix (x4 + 4)) = p4) {k n : Nat} (hk : k + 5 ≤ (xR X).cells ∧ n + 30 ≤ (xR X).slots) {Q : State → Prop} (M Mr : Mem) (h : L_25 p1 p2 p3 p4 M = some Mr) (hE : V X (k + 5) (n + 30) Q 3147 [some (.ref b), some (vr (xG X) 0), some (vr (xG X) 139), some (vr (xG X) 157), some (vi x4), none, none] [] Mr) : V X k n Q 1656 [some (.ref b), some (vr (xG X) 0), some (vr (xG X) 139), some (vr (xG X) 157), some (vi x4), none, none] [] M := by
  unfold L_25 at h
  refine x_aloadn hX dL_law_1656 rfl ?_
  refine x_qload hX dL_law_1657 rfl ?_
  refine x_iload hX dL_law_1658 rfl ?_
  refine x_iconst hX dL_law_1660 ?_
  refine x_iadd hX dL_law_1661 ?_
  refine x_sld hX hx dL_law_1662 b1 e1 ?_
  refine x_qload hX dL_law_1663 rfl ?_
  refine x_iload hX dL_law_1664 rfl ?_
  refine x_iconst hX dL_law_1666 ?_
  refine x_iadd hX dL_law_1667 ?_
  refine x_sld hX hx dL_law_1668 b2 e2 ?_
  refine x_aloadn hX dL_law_1669 rfl ?_
  obtain ⟨r_1, M_2, er_1, h⟩ := cl2_of h
  refine x_wS (As := [vr (xG X) 0, vi p1, vi p2, vr (xG X) 157]) (rest := []) hX dL_law_1670 (c_L_setZones (gk hX) (gl hX) hs h3 p1 p2 M _ _ er_1) kL_setZones w_1384 rfl rfl rfl (Nat.le_of_ble_eq_true rfl) ⟨Nat.le_trans (Nat.add_le_add_left (Nat.le_of_ble_eq_true rfl : 2 ≤ 5) _) hk.1, Nat.le_trans (Nat.add_le_add_left (Nat.le_of_ble_eq_true rfl : 12 ≤ 30) _) hk.2⟩ ?_
  show V X (k + 2) (n + 12) Q 1673 [some (.ref b), some (vr (xG X) 0), some (vr (xG X) 139), some (vr (xG X) 157), some (vi x4), none, none] [vi r_1] M_2
  refine x_istore (ls' := [some (.ref b), some (vr (xG X) 0), some (vr (xG X) 139), some (vr (xG X) 157), some (vi x4), some (vi r_1), none]) hX dL_law_1673 rfl rfl rfl ?_
  refine x_aloadn hX dL_law_1675 rfl ?_
  refine x_qload hX dL_law_1676 rfl ?_
  refine x_iload hX dL_law_1677 rfl ?_
  refine x_iconst hX dL_law_1679 ?_
  refine x_iadd hX dL_law_1680 ?_
  refine x_sld hX hx dL_law_1681 b1 e1 ?_
  refine x_qload hX dL_law_1682 rfl ?_
  refine x_iload hX dL_law_1683 rfl ?_
  refine x_iconst hX dL_law_1685 ?_
  refine x_iadd hX dL_law_1686 ?_
  refine x_sld hX hx dL_law_1687 b2 e2 ?_
  obtain ⟨r_3, M_4, er_3, h⟩ := cl2_of h
  refine x_callVi (t := 11) (As := [vi p1, vi p2]) (rest := []) hX dL_law_1688 (c_X12_setZones (gk hX) (gl hX) hs p1 p2 M_2 _ _ er_3) kX12_setZones vX12_setZones w_2031 (st139 hs) rfl rfl rfl rfl (Nat.le_of_ble_eq_true rfl) ⟨Nat.le_trans (Nat.add_le_add_left (Nat.le_of_ble_eq_true rfl : 2 ≤ 5) _) hk.1, Nat.le_trans (Nat.add_le_add_left (Nat.le_of_ble_eq_true rfl : 12 ≤ 30) _) hk.2⟩ ?_
  refine x_istore (ls' := [some (.ref b), some (vr (xG X) 0), some (vr (xG X) 139), some (vr (xG X) 157), some (vi x4), some (vi r_1), some (vi r_3)]) hX dL_law_1691 rfl rfl rfl ?_
  refine x_aloadn hX dL_law_1693 rfl ?_
  obtain ⟨r_5, er_5, h⟩ := cl1_of h
  refine x_callVi (t := 11) (As := []) (rest := []) hX dL_law_1694 (c_X12_thrown (gk hX) (gl hX) hs  M_4 _ er_5) kX12_thrown vX12_thrown w_1727 (st139 hs) rfl rfl rfl rfl (Nat.le_of_ble_eq_true rfl) ⟨Nat.le_trans (Nat.add_le_add_left (Nat.le_of_ble_eq_true rfl : 2 ≤ 5) _) hk.1, Nat.le_trans (Nat.add_le_add_left (Nat.le_of_ble_eq_true rfl : 12 ≤ 30) _) hk.2⟩ ?_
  refine x_iload hX dL_law_1697 rfl ?_
  refine x_icmp_eq (tgt := 1704) hX dL_law_1699 (by decide) rfl rfl (fun hc => ?_) (fun hc => ?_)
  · replace h := (if_pos hc).symm.trans h
    refine x_iload hX dL_law_1704 rfl ?_
    refine x_if_ne (tgt := 1721) hX dL_law_1706 (by decide) rfl (fun hc => ?_) (fun hc => ?_)
    · replace h := (if_pos hc).symm.trans h
      refine x_aloadn hX dL_law_1709 rfl ?_
      refine x_iconst hX dL_law_1710 ?_
      refine x_lald hX dL_law_1711 h3 inc_0_1 ixc_0 ?_
      refine x_iload hX dL_law_1712 rfl ?_
      refine x_i2l hX dL_law_1714 ?_
      refine x_lcmp hX dL_law_1715 ?_
      refine x_if_eq (tgt := 1721) hX dL_law_1716 (by decide) rfl (fun hc => ?_) (fun hc => ?_)
      · replace h := (if_pos hc).symm.trans h
        refine x_goto (tgt := 3147) hX dL_law_1721 (by decide) ?_
        cases h
        exact x_wid (k2 := k + 5) (n2 := n + 30) (Nat.add_le_add_left (Nat.le_of_ble_eq_true rfl : 2 ≤ 5) _) (Nat.add_le_add_left (Nat.le_of_ble_eq_true rfl : 12 ≤ 30) _) (x_weak [true, true, true, true, true, false, false] rfl hE)
      · replace h := (if_neg hc).symm.trans h
        refine x_iconst hX dL_law_1719 ?_
        cases h
    · replace h := (if_neg hc).symm.trans h
      refine x_goto (tgt := 3147) hX dL_law_1721 (by decide) ?_
      cases h
      exact x_wid (k2 := k + 5) (n2 := n + 30) (Nat.add_le_add_left (Nat.le_of_ble_eq_true rfl : 2 ≤ 5) _) (Nat.add_le_add_left (Nat.le_of_ble_eq_true rfl : 12 ≤ 30) _) (x_weak [true, true, true, true, true, false, false] rfl hE)
  · replace h := (if_neg hc).symm.trans h
    refine x_iconst hX dL_law_1702 ?_
    cases h

set_option maxRecDepth 100000 in
set_option maxHeartbeats 4000000 in
theorem law_26 {X : Cxt} (hX : Gd X RL cL_law 7 (some .boolean) 40) (hs : SOK (xG X)) (h3 : at_ (xG X) 157 4 1) {b Lx : Nat} {sx : Nat → Int} (hx : SX X b Lx sx) (x4 p1 p2 p3 p4 : Int) (b1 : inb (x4 + 1) Lx) (b2 : inb (x4 + 2) Lx) (b3 : inb (x4 + 3) Lx) (b4 : inb (x4 + 4) Lx) (e1 : sx (ix (x4 + 1)) = p1) (e2 : sx (ix (x4 + 2)) = p2) (e3 : sx (ix (x4 + 3)) = p3) (e4 : sx (ix (x4 + 4)) = p4) {k n : Nat} (hk : k + 5 ≤ (xR X).cells ∧ n + 30 ≤ (xR X).slots) {Q : State → Prop} (M Mr : Mem) (h : L_26 p1 p2 p3 p4 M = some Mr) (hE : V X (k + 5) (n + 30) Q 3147 [some (.ref b), some (vr (xG X) 0), some (vr (xG X) 139), some (vr (xG X) 157), some (vi x4), none, none] [] Mr) : V X k n Q 1724 [some (.ref b), some (vr (xG X) 0), some (vr (xG X) 139), some (vr (xG X) 157), some (vi x4), none, none] [] M := by
  unfold L_26 at h
  refine x_aloadn hX dL_law_1724 rfl ?_
  refine x_qload hX dL_law_1725 rfl ?_
  refine x_iload hX dL_law_1726 rfl ?_
  refine x_iconst hX dL_law_1728 ?_
  refine x_iadd hX dL_law_1729 ?_
  refine x_sld hX hx dL_law_1730 b1 e1 ?_
  refine x_aloadn hX dL_law_1731 rfl ?_
  obtain ⟨r_1, M_2, er_1, h⟩ := cl2_of h
  refine x_wS (As := [vr (xG X) 0, vi p1, vr (xG X) 157]) (rest := []) hX dL_law_1732 (c_L_zoneOf (gk hX) (gl hX) hs h3 p1 M _ _ er_1) kL_zoneOf w_1392 rfl rfl rfl (Nat.le_of_ble_eq_true rfl) ⟨Nat.le_trans (Nat.add_le_add_left (Nat.le_of_ble_eq_true rfl : 1 ≤ 5) _) hk.1, Nat.le_trans (Nat.add_le_add_left (Nat.le_of_ble_eq_true rfl : 6 ≤ 30) _) hk.2⟩ ?_
  show V X (k + 1) (n + 6) Q 1735 [some (.ref b), some (vr (xG X) 0), some (vr (xG X) 139), some (vr (xG X) 157), some (vi x4), none, none] [vi r_1] M_2
  refine x_istore (ls' := [some (.ref b), some (vr (xG X) 0), some (vr (xG X) 139), some (vr (xG X) 157), some (vi x4), some (vi r_1), none]) hX dL_law_1735 rfl rfl rfl ?_
  refine x_aloadn hX dL_law_1737 rfl ?_
  refine x_qload hX dL_law_1738 rfl ?_
  refine x_iload hX dL_law_1739 rfl ?_
  refine x_iconst hX dL_law_1741 ?_
  refine x_iadd hX dL_law_1742 ?_
  refine x_sld hX hx dL_law_1743 b1 e1 ?_
  obtain ⟨r_3, M_4, er_3, h⟩ := cl2_of h
  refine x_callVi (t := 11) (As := [vi p1]) (rest := []) hX dL_law_1744 (c_X12_zoneOf (gk hX) (gl hX) hs p1 M_2 _ _ er_3) kX12_zoneOf vX12_zoneOf w_2035 (st139 hs) rfl rfl rfl rfl (Nat.le_of_ble_eq_true rfl) ⟨Nat.le_trans (Nat.add_le_add_left (Nat.le_of_ble_eq_true rfl : 1 ≤ 5) _) hk.1, Nat.le_trans (Nat.add_le_add_left (Nat.le_of_ble_eq_true rfl : 6 ≤ 30) _) hk.2⟩ ?_
  refine x_istore (ls' := [some (.ref b), some (vr (xG X) 0), some (vr (xG X) 139), some (vr (xG X) 157), some (vi x4), some (vi r_1), some (vi r_3)]) hX dL_law_1747 rfl rfl rfl ?_
  refine x_aloadn hX dL_law_1749 rfl ?_
  obtain ⟨r_5, er_5, h⟩ := cl1_of h
  refine x_callVi (t := 11) (As := []) (rest := []) hX dL_law_1750 (c_X12_thrown (gk hX) (gl hX) hs  M_4 _ er_5) kX12_thrown vX12_thrown w_1727 (st139 hs) rfl rfl rfl rfl (Nat.le_of_ble_eq_true rfl) ⟨Nat.le_trans (Nat.add_le_add_left (Nat.le_of_ble_eq_true rfl : 1 ≤ 5) _) hk.1, Nat.le_trans (Nat.add_le_add_left (Nat.le_of_ble_eq_true rfl : 6 ≤ 30) _) hk.2⟩ ?_
  refine x_iload hX dL_law_1753 rfl ?_
  refine x_icmp_eq (tgt := 1760) hX dL_law_1755 (by decide) rfl rfl (fun hc => ?_) (fun hc => ?_)
  · replace h := (if_pos hc).symm.trans h
    refine x_iload hX dL_law_1760 rfl ?_
    refine x_if_ne (tgt := 1777) hX dL_law_1762 (by decide) rfl (fun hc => ?_) (fun hc => ?_)
    · replace h := (if_pos hc).symm.trans h
      refine x_aloadn hX dL_law_1765 rfl ?_
      refine x_iconst hX dL_law_1766 ?_
      refine x_lald hX dL_law_1767 h3 inc_0_1 ixc_0 ?_
      refine x_iload hX dL_law_1768 rfl ?_
      refine x_i2l hX dL_law_1770 ?_
      refine x_lcmp hX dL_law_1771 ?_
      refine x_if_eq (tgt := 1777) hX dL_law_1772 (by decide) rfl (fun hc => ?_) (fun hc => ?_)
      · replace h := (if_pos hc).symm.trans h
        refine x_goto (tgt := 3147) hX dL_law_1777 (by decide) ?_
        cases h
        exact x_wid (k2 := k + 5) (n2 := n + 30) (Nat.add_le_add_left (Nat.le_of_ble_eq_true rfl : 1 ≤ 5) _) (Nat.add_le_add_left (Nat.le_of_ble_eq_true rfl : 6 ≤ 30) _) (x_weak [true, true, true, true, true, false, false] rfl hE)
      · replace h := (if_neg hc).symm.trans h
        refine x_iconst hX dL_law_1775 ?_
        cases h
    · replace h := (if_neg hc).symm.trans h
      refine x_goto (tgt := 3147) hX dL_law_1777 (by decide) ?_
      cases h
      exact x_wid (k2 := k + 5) (n2 := n + 30) (Nat.add_le_add_left (Nat.le_of_ble_eq_true rfl : 1 ≤ 5) _) (Nat.add_le_add_left (Nat.le_of_ble_eq_true rfl : 6 ≤ 30) _) (x_weak [true, true, true, true, true, false, false] rfl hE)
  · replace h := (if_neg hc).symm.trans h
    refine x_iconst hX dL_law_1758 ?_
    cases h

set_option maxRecDepth 100000 in
set_option maxHeartbeats 4000000 in
theorem law_27 {X : Cxt} (hX : Gd X RL cL_law 7 (some .boolean) 40) (hs : SOK (xG X)) (h3 : at_ (xG X) 157 4 1) {b Lx : Nat} {sx : Nat → Int} (hx : SX X b Lx sx) (x4 p1 p2 p3 p4 : Int) (b1 : inb (x4 + 1) Lx) (b2 : inb (x4 + 2) Lx) (b3 : inb (x4 + 3) Lx) (b4 : inb (x4 + 4) Lx) (e1 : sx (ix (x4 + 1)) = p1) (e2 : sx (ix (x4 + 2)) = p2) (e3 : sx (ix (x4 + 3)) = p3) (e4 : sx (ix (x4 + 4)) = p4) {k n : Nat} (hk : k + 5 ≤ (xR X).cells ∧ n + 30 ≤ (xR X).slots) {Q : State → Prop} (M Mr : Mem) (h : L_27 p1 p2 p3 p4 M = some Mr) (hE : V X (k + 5) (n + 30) Q 3147 [some (.ref b), some (vr (xG X) 0), some (vr (xG X) 139), some (vr (xG X) 157), some (vi x4), none, none] [] Mr) : V X k n Q 1780 [some (.ref b), some (vr (xG X) 0), some (vr (xG X) 139), some (vr (xG X) 157), some (vi x4), none, none] [] M := by
  unfold L_27 at h
  refine x_aloadn hX dL_law_1780 rfl ?_
  refine x_qload hX dL_law_1781 rfl ?_
  refine x_iload hX dL_law_1782 rfl ?_
  refine x_iconst hX dL_law_1784 ?_
  refine x_iadd hX dL_law_1785 ?_
  refine x_sld hX hx dL_law_1786 b1 e1 ?_
  refine x_qload hX dL_law_1787 rfl ?_
  refine x_iload hX dL_law_1788 rfl ?_
  refine x_iconst hX dL_law_1790 ?_
  refine x_iadd hX dL_law_1791 ?_
  refine x_sld hX hx dL_law_1792 b2 e2 ?_
  refine x_aloadn hX dL_law_1793 rfl ?_
  obtain ⟨r_1, M_2, er_1, h⟩ := cl2_of h
  refine x_wS (As := [vr (xG X) 0, vi p1, vi p2, vr (xG X) 157]) (rest := []) hX dL_law_1794 (c_L_setBuffer (gk hX) (gl hX) hs h3 p1 p2 M _ _ er_1) kL_setBuffer w_1403 rfl rfl rfl (Nat.le_of_ble_eq_true rfl) ⟨Nat.le_trans (Nat.add_le_add_left (Nat.le_of_ble_eq_true rfl : 2 ≤ 5) _) hk.1, Nat.le_trans (Nat.add_le_add_left (Nat.le_of_ble_eq_true rfl : 12 ≤ 30) _) hk.2⟩ ?_
  show V X (k + 2) (n + 12) Q 1797 [some (.ref b), some (vr (xG X) 0), some (vr (xG X) 139), some (vr (xG X) 157), some (vi x4), none, none] [vi r_1] M_2
  refine x_istore (ls' := [some (.ref b), some (vr (xG X) 0), some (vr (xG X) 139), some (vr (xG X) 157), some (vi x4), some (vi r_1), none]) hX dL_law_1797 rfl rfl rfl ?_
  refine x_aloadn hX dL_law_1799 rfl ?_
  refine x_qload hX dL_law_1800 rfl ?_
  refine x_iload hX dL_law_1801 rfl ?_
  refine x_iconst hX dL_law_1803 ?_
  refine x_iadd hX dL_law_1804 ?_
  refine x_sld hX hx dL_law_1805 b1 e1 ?_
  refine x_qload hX dL_law_1806 rfl ?_
  refine x_iload hX dL_law_1807 rfl ?_
  refine x_iconst hX dL_law_1809 ?_
  refine x_iadd hX dL_law_1810 ?_
  refine x_sld hX hx dL_law_1811 b2 e2 ?_
  obtain ⟨r_3, M_4, er_3, h⟩ := cl2_of h
  refine x_callVi (t := 11) (As := [vi p1, vi p2]) (rest := []) hX dL_law_1812 (c_X12_setBuffer (gk hX) (gl hX) hs p1 p2 M_2 _ _ er_3) kX12_setBuffer vX12_setBuffer w_2039 (st139 hs) rfl rfl rfl rfl (Nat.le_of_ble_eq_true rfl) ⟨Nat.le_trans (Nat.add_le_add_left (Nat.le_of_ble_eq_true rfl : 2 ≤ 5) _) hk.1, Nat.le_trans (Nat.add_le_add_left (Nat.le_of_ble_eq_true rfl : 12 ≤ 30) _) hk.2⟩ ?_
  refine x_istore (ls' := [some (.ref b), some (vr (xG X) 0), some (vr (xG X) 139), some (vr (xG X) 157), some (vi x4), some (vi r_1), some (vi r_3)]) hX dL_law_1815 rfl rfl rfl ?_
  refine x_aloadn hX dL_law_1817 rfl ?_
  obtain ⟨r_5, er_5, h⟩ := cl1_of h
  refine x_callVi (t := 11) (As := []) (rest := []) hX dL_law_1818 (c_X12_thrown (gk hX) (gl hX) hs  M_4 _ er_5) kX12_thrown vX12_thrown w_1727 (st139 hs) rfl rfl rfl rfl (Nat.le_of_ble_eq_true rfl) ⟨Nat.le_trans (Nat.add_le_add_left (Nat.le_of_ble_eq_true rfl : 2 ≤ 5) _) hk.1, Nat.le_trans (Nat.add_le_add_left (Nat.le_of_ble_eq_true rfl : 12 ≤ 30) _) hk.2⟩ ?_
  refine x_iload hX dL_law_1821 rfl ?_
  refine x_icmp_eq (tgt := 1828) hX dL_law_1823 (by decide) rfl rfl (fun hc => ?_) (fun hc => ?_)
  · replace h := (if_pos hc).symm.trans h
    refine x_iload hX dL_law_1828 rfl ?_
    refine x_if_ne (tgt := 1845) hX dL_law_1830 (by decide) rfl (fun hc => ?_) (fun hc => ?_)
    · replace h := (if_pos hc).symm.trans h
      refine x_aloadn hX dL_law_1833 rfl ?_
      refine x_iconst hX dL_law_1834 ?_
      refine x_lald hX dL_law_1835 h3 inc_0_1 ixc_0 ?_
      refine x_iload hX dL_law_1836 rfl ?_
      refine x_i2l hX dL_law_1838 ?_
      refine x_lcmp hX dL_law_1839 ?_
      refine x_if_eq (tgt := 1845) hX dL_law_1840 (by decide) rfl (fun hc => ?_) (fun hc => ?_)
      · replace h := (if_pos hc).symm.trans h
        refine x_goto (tgt := 3147) hX dL_law_1845 (by decide) ?_
        cases h
        exact x_wid (k2 := k + 5) (n2 := n + 30) (Nat.add_le_add_left (Nat.le_of_ble_eq_true rfl : 2 ≤ 5) _) (Nat.add_le_add_left (Nat.le_of_ble_eq_true rfl : 12 ≤ 30) _) (x_weak [true, true, true, true, true, false, false] rfl hE)
      · replace h := (if_neg hc).symm.trans h
        refine x_iconst hX dL_law_1843 ?_
        cases h
    · replace h := (if_neg hc).symm.trans h
      refine x_goto (tgt := 3147) hX dL_law_1845 (by decide) ?_
      cases h
      exact x_wid (k2 := k + 5) (n2 := n + 30) (Nat.add_le_add_left (Nat.le_of_ble_eq_true rfl : 2 ≤ 5) _) (Nat.add_le_add_left (Nat.le_of_ble_eq_true rfl : 12 ≤ 30) _) (x_weak [true, true, true, true, true, false, false] rfl hE)
  · replace h := (if_neg hc).symm.trans h
    refine x_iconst hX dL_law_1826 ?_
    cases h
