-- ===== words and facts of the constructors =====
def mX11_init : Mth := (yX11_init, cX11_init, 1, none)
theorem w_180 : Cond.code yX11_init cX11_init 1 (none) ∈ WS := ws_of 180 (by decide +kernel) (by decide +kernel)
theorem kX11_init : MK mX11_init 0 := ⟨w_180, w_150, by decide +kernel, Nat.le_of_ble_eq_true rfl, by decide +kernel⟩
theorem w_181 : Cond.methodLink RX11 1 Lib.objectInit ∈ WS := ws_of 181 (by decide +kernel) (by decide +kernel)
theorem w_182 : Cond.instanceMethod Lib.objectInit ∈ WS := ws_of 182 (by decide +kernel) (by decide +kernel)
theorem w_183 : Cond.code Lib.objectInit ⟨#[0xb1]⟩ 1 none ∈ WS := ws_of 183 (by decide +kernel) (by decide +kernel)
theorem oi_X11 : OIW RX11 1 := ⟨w_181, w_182, w_183⟩
def mX1_init : Mth := (yX1_init, cX1_init, 1, none)
theorem w_188 : Cond.code yX1_init cX1_init 1 (none) ∈ WS := ws_of 188 (by decide +kernel) (by decide +kernel)
theorem kX1_init : MK mX1_init 0 := ⟨w_188, w_151, by decide +kernel, Nat.le_of_ble_eq_true rfl, by decide +kernel⟩
theorem w_189 : Cond.methodLink RX1 3 Lib.objectInit ∈ WS := ws_of 189 (by decide +kernel) (by decide +kernel)
theorem oi_X1 : OIW RX1 3 := ⟨w_189, w_182, w_183⟩
def mX3_init : Mth := (yX3_init, cX3_init, 1, none)
theorem w_194 : Cond.code yX3_init cX3_init 1 (none) ∈ WS := ws_of 194 (by decide +kernel) (by decide +kernel)
theorem kX3_init : MK mX3_init 0 := ⟨w_194, w_152, by decide +kernel, Nat.le_of_ble_eq_true rfl, by decide +kernel⟩
theorem w_195 : Cond.methodLink RX3 3 Lib.objectInit ∈ WS := ws_of 195 (by decide +kernel) (by decide +kernel)
theorem oi_X3 : OIW RX3 3 := ⟨w_195, w_182, w_183⟩
theorem w_248 : Cond.arrayClass .int ∈ WS := ws_of 248 (by decide +kernel) (by decide +kernel)
theorem w_190 : Cond.classLink RX1 9 RX3 ∈ WS := ws_of 190 (by decide +kernel) (by decide +kernel)
theorem w_191 : Cond.instantiable RX3 9 ∈ WS := ws_of 191 (by decide +kernel) (by decide +kernel)
theorem w_193 : Cond.instanceMethod yX3_init ∈ WS := ws_of 193 (by decide +kernel) (by decide +kernel)
theorem df_X3 : ∀ j, j < 9 → defaultValue (tyX3 j) = vp_V (dfl 3) j := fun j hj => by
  match j, hj with
  | 0, _ => rfl
  | 1, _ => rfl
  | 2, _ => rfl
  | 3, _ => rfl
  | 4, _ => rfl
  | 5, _ => rfl
  | 6, _ => rfl
  | 7, _ => rfl
  | 8, _ => rfl
  | j + 9, h => exact absurd h (by omega)
theorem nw_X1_11 : NWW RX1 9 11 mX3_init 3 9 := ⟨RX3, TX3, tyX3, rfl, inws_3, tyX3_ok, df_X3, w_190, w_191, w_152, kX3_init, w_193, rfl, rfl, Or.inl ⟨by decide +kernel, rfl⟩⟩
def mX2_init : Mth := (yX2_init, cX2_init, 1, none)
theorem w_253 : Cond.code yX2_init cX2_init 1 (none) ∈ WS := ws_of 253 (by decide +kernel) (by decide +kernel)
theorem kX2_init : MK mX2_init 0 := ⟨w_253, w_153, by decide +kernel, Nat.le_of_ble_eq_true rfl, by decide +kernel⟩
theorem w_254 : Cond.methodLink RX2 3 Lib.objectInit ∈ WS := ws_of 254 (by decide +kernel) (by decide +kernel)
theorem oi_X2 : OIW RX2 3 := ⟨w_254, w_182, w_183⟩
theorem w_249 : Cond.classLink RX1 18 RX2 ∈ WS := ws_of 249 (by decide +kernel) (by decide +kernel)
theorem w_250 : Cond.instantiable RX2 5 ∈ WS := ws_of 250 (by decide +kernel) (by decide +kernel)
theorem w_252 : Cond.instanceMethod yX2_init ∈ WS := ws_of 252 (by decide +kernel) (by decide +kernel)
theorem df_X2 : ∀ j, j < 5 → defaultValue (tyX2 j) = vp_V (dfl 2) j := fun j hj => by
  match j, hj with
  | 0, _ => rfl
  | 1, _ => rfl
  | 2, _ => rfl
  | 3, _ => rfl
  | 4, _ => rfl
  | j + 5, h => exact absurd h (by omega)
theorem nw_X1_20 : NWW RX1 18 20 mX2_init 2 5 := ⟨RX2, TX2, tyX2, rfl, inws_2, tyX2_ok, df_X2, w_249, w_250, w_153, kX2_init, w_252, rfl, rfl, Or.inl ⟨by decide +kernel, rfl⟩⟩
def mX5_init : Mth := (yX5_init, cX5_init, 1, none)
theorem w_285 : Cond.code yX5_init cX5_init 1 (none) ∈ WS := ws_of 285 (by decide +kernel) (by decide +kernel)
theorem kX5_init : MK mX5_init 0 := ⟨w_285, w_154, by decide +kernel, Nat.le_of_ble_eq_true rfl, by decide +kernel⟩
theorem w_286 : Cond.methodLink RX5 3 Lib.objectInit ∈ WS := ws_of 286 (by decide +kernel) (by decide +kernel)
theorem oi_X5 : OIW RX5 3 := ⟨w_286, w_182, w_183⟩
theorem w_281 : Cond.classLink RX1 25 RX5 ∈ WS := ws_of 281 (by decide +kernel) (by decide +kernel)
theorem w_282 : Cond.instantiable RX5 8 ∈ WS := ws_of 282 (by decide +kernel) (by decide +kernel)
theorem w_284 : Cond.instanceMethod yX5_init ∈ WS := ws_of 284 (by decide +kernel) (by decide +kernel)
theorem df_X5 : ∀ j, j < 8 → defaultValue (tyX5 j) = vp_V (dfl 5) j := fun j hj => by
  match j, hj with
  | 0, _ => rfl
  | 1, _ => rfl
  | 2, _ => rfl
  | 3, _ => rfl
  | 4, _ => rfl
  | 5, _ => rfl
  | 6, _ => rfl
  | 7, _ => rfl
  | j + 8, h => exact absurd h (by omega)
theorem nw_X1_27 : NWW RX1 25 27 mX5_init 5 8 := ⟨RX5, TX5, tyX5, rfl, inws_5, tyX5_ok, df_X5, w_281, w_282, w_154, kX5_init, w_284, rfl, rfl, Or.inl ⟨by decide +kernel, rfl⟩⟩
def mX0_init : Mth := (yX0_init, cX0_init, 1, none)
theorem w_332 : Cond.code yX0_init cX0_init 1 (none) ∈ WS := ws_of 332 (by decide +kernel) (by decide +kernel)
theorem kX0_init : MK mX0_init 0 := ⟨w_332, w_155, by decide +kernel, Nat.le_of_ble_eq_true rfl, by decide +kernel⟩
theorem w_333 : Cond.methodLink RX0 3 Lib.objectInit ∈ WS := ws_of 333 (by decide +kernel) (by decide +kernel)
theorem oi_X0 : OIW RX0 3 := ⟨w_333, w_182, w_183⟩
theorem w_328 : Cond.classLink RX1 32 RX0 ∈ WS := ws_of 328 (by decide +kernel) (by decide +kernel)
theorem w_329 : Cond.instantiable RX0 2 ∈ WS := ws_of 329 (by decide +kernel) (by decide +kernel)
theorem w_331 : Cond.instanceMethod yX0_init ∈ WS := ws_of 331 (by decide +kernel) (by decide +kernel)
theorem df_X0 : ∀ j, j < 2 → defaultValue (tyX0 j) = vp_V (dfl 0) j := fun j hj => by
  match j, hj with
  | 0, _ => rfl
  | 1, _ => rfl
  | j + 2, h => exact absurd h (by omega)
theorem nw_X1_34 : NWW RX1 32 34 mX0_init 0 2 := ⟨RX0, TX0, tyX0, rfl, inws_0, tyX0_ok, df_X0, w_328, w_329, w_155, kX0_init, w_331, rfl, rfl, Or.inl ⟨by decide +kernel, rfl⟩⟩
theorem w_184 : Cond.classLink RX11 7 RX1 ∈ WS := ws_of 184 (by decide +kernel) (by decide +kernel)
theorem w_185 : Cond.instantiable RX1 4 ∈ WS := ws_of 185 (by decide +kernel) (by decide +kernel)
theorem w_187 : Cond.instanceMethod yX1_init ∈ WS := ws_of 187 (by decide +kernel) (by decide +kernel)
theorem w_186 : Cond.methodLink RX11 9 yX1_init ∈ WS := ws_of 186 (by decide +kernel) (by decide +kernel)
theorem df_X1 : ∀ j, j < 4 → defaultValue (tyX1 j) = vp_V (dfl 1) j := fun j hj => by
  match j, hj with
  | 0, _ => rfl
  | 1, _ => rfl
  | 2, _ => rfl
  | 3, _ => rfl
  | j + 4, h => exact absurd h (by omega)
theorem nw_X11_9 : NWW RX11 7 9 mX1_init 1 4 := ⟨RX1, TX1, tyX1, rfl, inws_1, tyX1_ok, df_X1, w_184, w_185, w_151, kX1_init, w_187, rfl, rfl, Or.inr w_186⟩
def mX10_init : Mth := (yX10_init, cX10_init, 1, none)
theorem w_400 : Cond.code yX10_init cX10_init 1 (none) ∈ WS := ws_of 400 (by decide +kernel) (by decide +kernel)
theorem kX10_init : MK mX10_init 0 := ⟨w_400, w_156, by decide +kernel, Nat.le_of_ble_eq_true rfl, by decide +kernel⟩
theorem w_401 : Cond.methodLink RX10 3 Lib.objectInit ∈ WS := ws_of 401 (by decide +kernel) (by decide +kernel)
theorem oi_X10 : OIW RX10 3 := ⟨w_401, w_182, w_183⟩
theorem w_430 : Cond.arrayClass .byte ∈ WS := ws_of 430 (by decide +kernel) (by decide +kernel)
theorem w_396 : Cond.classLink RX11 23 RX10 ∈ WS := ws_of 396 (by decide +kernel) (by decide +kernel)
theorem w_397 : Cond.instantiable RX10 8 ∈ WS := ws_of 397 (by decide +kernel) (by decide +kernel)
theorem w_399 : Cond.instanceMethod yX10_init ∈ WS := ws_of 399 (by decide +kernel) (by decide +kernel)
theorem df_X10 : ∀ j, j < 8 → defaultValue (tyX10 j) = vp_V (dfl 9) j := fun j hj => by
  match j, hj with
  | 0, _ => rfl
  | 1, _ => rfl
  | 2, _ => rfl
  | 3, _ => rfl
  | 4, _ => rfl
  | 5, _ => rfl
  | 6, _ => rfl
  | 7, _ => rfl
  | j + 8, h => exact absurd h (by omega)
theorem nw_X11_25 : NWW RX11 23 25 mX10_init 9 8 := ⟨RX10, TX10, tyX10, rfl, inws_9, tyX10_ok, df_X10, w_396, w_397, w_156, kX10_init, w_399, rfl, rfl, Or.inl ⟨by decide +kernel, rfl⟩⟩
def mX6_init : Mth := (yX6_init, cX6_init, 1, none)
theorem w_435 : Cond.code yX6_init cX6_init 1 (none) ∈ WS := ws_of 435 (by decide +kernel) (by decide +kernel)
theorem kX6_init : MK mX6_init 0 := ⟨w_435, w_157, by decide +kernel, Nat.le_of_ble_eq_true rfl, by decide +kernel⟩
theorem w_436 : Cond.methodLink RX6 3 Lib.objectInit ∈ WS := ws_of 436 (by decide +kernel) (by decide +kernel)
theorem oi_X6 : OIW RX6 3 := ⟨w_436, w_182, w_183⟩
theorem w_431 : Cond.classLink RX11 30 RX6 ∈ WS := ws_of 431 (by decide +kernel) (by decide +kernel)
theorem w_432 : Cond.instantiable RX6 14 ∈ WS := ws_of 432 (by decide +kernel) (by decide +kernel)
theorem w_434 : Cond.instanceMethod yX6_init ∈ WS := ws_of 434 (by decide +kernel) (by decide +kernel)
theorem df_X6 : ∀ j, j < 14 → defaultValue (tyX6 j) = vp_V (dfl 6) j := fun j hj => by
  match j, hj with
  | 0, _ => rfl
  | 1, _ => rfl
  | 2, _ => rfl
  | 3, _ => rfl
  | 4, _ => rfl
  | 5, _ => rfl
  | 6, _ => rfl
  | 7, _ => rfl
  | 8, _ => rfl
  | 9, _ => rfl
  | 10, _ => rfl
  | 11, _ => rfl
  | 12, _ => rfl
  | 13, _ => rfl
  | j + 14, h => exact absurd h (by omega)
theorem nw_X11_32 : NWW RX11 30 32 mX6_init 6 14 := ⟨RX6, TX6, tyX6, rfl, inws_6, tyX6_ok, df_X6, w_431, w_432, w_157, kX6_init, w_434, rfl, rfl, Or.inl ⟨by decide +kernel, rfl⟩⟩
def mX7_init : Mth := (yX7_init, cX7_init, 1, none)
theorem w_486 : Cond.code yX7_init cX7_init 1 (none) ∈ WS := ws_of 486 (by decide +kernel) (by decide +kernel)
theorem kX7_init : MK mX7_init 0 := ⟨w_486, w_158, by decide +kernel, Nat.le_of_ble_eq_true rfl, by decide +kernel⟩
theorem w_487 : Cond.methodLink RX7 3 Lib.objectInit ∈ WS := ws_of 487 (by decide +kernel) (by decide +kernel)
theorem oi_X7 : OIW RX7 3 := ⟨w_487, w_182, w_183⟩
theorem w_488 : Cond.classLink RX7 9 "[[I" ∈ WS := ws_of 488 (by decide +kernel) (by decide +kernel)
theorem w_490 : Cond.classLink RX7 22 RX6 ∈ WS := ws_of 490 (by decide +kernel) (by decide +kernel)
theorem nw_X7_24 : NWW RX7 22 24 mX6_init 6 14 := ⟨RX6, TX6, tyX6, rfl, inws_6, tyX6_ok, df_X6, w_490, w_432, w_157, kX6_init, w_434, rfl, rfl, Or.inl ⟨by decide +kernel, rfl⟩⟩
theorem w_482 : Cond.classLink RX11 37 RX7 ∈ WS := ws_of 482 (by decide +kernel) (by decide +kernel)
theorem w_483 : Cond.instantiable RX7 4 ∈ WS := ws_of 483 (by decide +kernel) (by decide +kernel)
theorem w_485 : Cond.instanceMethod yX7_init ∈ WS := ws_of 485 (by decide +kernel) (by decide +kernel)
theorem df_X7 : ∀ j, j < 4 → defaultValue (tyX7 j) = vp_V (dfl 7) j := fun j hj => by
  match j, hj with
  | 0, _ => rfl
  | 1, _ => rfl
  | 2, _ => rfl
  | 3, _ => rfl
  | j + 4, h => exact absurd h (by omega)
theorem nw_X11_39 : NWW RX11 37 39 mX7_init 7 4 := ⟨RX7, TX7, tyX7, rfl, inws_7, tyX7_ok, df_X7, w_482, w_483, w_158, kX7_init, w_485, rfl, rfl, Or.inl ⟨by decide +kernel, rfl⟩⟩
def mX4_init : Mth := (yX4_init, cX4_init, 1, none)
theorem w_512 : Cond.code yX4_init cX4_init 1 (none) ∈ WS := ws_of 512 (by decide +kernel) (by decide +kernel)
theorem kX4_init : MK mX4_init 0 := ⟨w_512, w_159, by decide +kernel, Nat.le_of_ble_eq_true rfl, by decide +kernel⟩
theorem w_513 : Cond.methodLink RX4 3 Lib.objectInit ∈ WS := ws_of 513 (by decide +kernel) (by decide +kernel)
theorem oi_X4 : OIW RX4 3 := ⟨w_513, w_182, w_183⟩
theorem w_514 : Cond.classLink RX4 9 RX6 ∈ WS := ws_of 514 (by decide +kernel) (by decide +kernel)
theorem nw_X4_11 : NWW RX4 9 11 mX6_init 6 14 := ⟨RX6, TX6, tyX6, rfl, inws_6, tyX6_ok, df_X6, w_514, w_432, w_157, kX6_init, w_434, rfl, rfl, Or.inl ⟨by decide +kernel, rfl⟩⟩
theorem w_508 : Cond.classLink RX11 44 RX4 ∈ WS := ws_of 508 (by decide +kernel) (by decide +kernel)
theorem w_509 : Cond.instantiable RX4 5 ∈ WS := ws_of 509 (by decide +kernel) (by decide +kernel)
theorem w_511 : Cond.instanceMethod yX4_init ∈ WS := ws_of 511 (by decide +kernel) (by decide +kernel)
theorem df_X4 : ∀ j, j < 5 → defaultValue (tyX4 j) = vp_V (dfl 4) j := fun j hj => by
  match j, hj with
  | 0, _ => rfl
  | 1, _ => rfl
  | 2, _ => rfl
  | 3, _ => rfl
  | 4, _ => rfl
  | j + 5, h => exact absurd h (by omega)
theorem nw_X11_46 : NWW RX11 44 46 mX4_init 4 5 := ⟨RX4, TX4, tyX4, rfl, inws_4, tyX4_ok, df_X4, w_508, w_509, w_159, kX4_init, w_511, rfl, rfl, Or.inl ⟨by decide +kernel, rfl⟩⟩
def mX9_init : Mth := (yX9_init, cX9_init, 1, none)
theorem w_536 : Cond.code yX9_init cX9_init 1 (none) ∈ WS := ws_of 536 (by decide +kernel) (by decide +kernel)
theorem kX9_init : MK mX9_init 0 := ⟨w_536, w_160, by decide +kernel, Nat.le_of_ble_eq_true rfl, by decide +kernel⟩
theorem w_537 : Cond.methodLink RX9 3 Lib.objectInit ∈ WS := ws_of 537 (by decide +kernel) (by decide +kernel)
theorem oi_X9 : OIW RX9 3 := ⟨w_537, w_182, w_183⟩
theorem w_538 : Cond.classLink RX9 9 RX7 ∈ WS := ws_of 538 (by decide +kernel) (by decide +kernel)
theorem nw_X9_11 : NWW RX9 9 11 mX7_init 7 4 := ⟨RX7, TX7, tyX7, rfl, inws_7, tyX7_ok, df_X7, w_538, w_483, w_158, kX7_init, w_485, rfl, rfl, Or.inl ⟨by decide +kernel, rfl⟩⟩
theorem w_532 : Cond.classLink RX11 51 RX9 ∈ WS := ws_of 532 (by decide +kernel) (by decide +kernel)
theorem w_533 : Cond.instantiable RX9 6 ∈ WS := ws_of 533 (by decide +kernel) (by decide +kernel)
theorem w_535 : Cond.instanceMethod yX9_init ∈ WS := ws_of 535 (by decide +kernel) (by decide +kernel)
theorem df_X9 : ∀ j, j < 6 → defaultValue (tyX9 j) = vp_V (dfl 8) j := fun j hj => by
  match j, hj with
  | 0, _ => rfl
  | 1, _ => rfl
  | 2, _ => rfl
  | 3, _ => rfl
  | 4, _ => rfl
  | 5, _ => rfl
  | j + 6, h => exact absurd h (by omega)
theorem nw_X11_53 : NWW RX11 51 53 mX9_init 8 6 := ⟨RX9, TX9, tyX9, rfl, inws_8, tyX9_ok, df_X9, w_532, w_533, w_160, kX9_init, w_535, rfl, rfl, Or.inl ⟨by decide +kernel, rfl⟩⟩
def mX12_init : Mth := (yX12_init, cX12_init, 1, none)
theorem w_1626 : Cond.code yX12_init cX12_init 1 (none) ∈ WS := ws_of 1626 (by decide +kernel) (by decide +kernel)
theorem kX12_init : MK mX12_init 0 := ⟨w_1626, w_161, by decide +kernel, Nat.le_of_ble_eq_true rfl, by decide +kernel⟩
theorem w_1627 : Cond.methodLink RX12 1 Lib.objectInit ∈ WS := ws_of 1627 (by decide +kernel) (by decide +kernel)
theorem oi_X12 : OIW RX12 1 := ⟨w_1627, w_182, w_183⟩
theorem sp_938 : (Int16.ofInt 938).toInt32 = Int32.ofInt 938 := by decide +kernel
theorem w_1726 : Cond.arrayClass .boolean ∈ WS := ws_of 1726 (by decide +kernel) (by decide +kernel)
theorem bp_74 : (Int8.ofInt 74).toInt32 = Int32.ofInt 74 := by decide +kernel
theorem bp_104 : (Int8.ofInt 104).toInt32 = Int32.ofInt 104 := by decide +kernel
theorem inc_0_74 : inb 0 74 := by unfold inb; decide +kernel
theorem inc_1_74 : inb 1 74 := by unfold inb; decide +kernel
theorem bp_108 : (Int8.ofInt 108).toInt32 = Int32.ofInt 108 := by decide +kernel
theorem inc_2_74 : inb 2 74 := by unfold inb; decide +kernel
theorem inc_3_74 : inb 3 74 := by unfold inb; decide +kernel
theorem inc_4_74 : inb 4 74 := by unfold inb; decide +kernel
theorem bp_105 : (Int8.ofInt 105).toInt32 = Int32.ofInt 105 := by decide +kernel
theorem inc_5_74 : inb 5 74 := by unfold inb; decide +kernel
theorem bp_116 : (Int8.ofInt 116).toInt32 = Int32.ofInt 116 := by decide +kernel
theorem inc_6_74 : inb 6 74 := by unfold inb; decide +kernel
theorem bp_101 : (Int8.ofInt 101).toInt32 = Int32.ofInt 101 := by decide +kernel
theorem inc_7_74 : inb 7 74 := by unfold inb; decide +kernel
theorem inc_8_74 : inb 8 74 := by unfold inb; decide +kernel
theorem inc_9_74 : inb 9 74 := by unfold inb; decide +kernel
theorem bp_111 : (Int8.ofInt 111).toInt32 = Int32.ofInt 111 := by decide +kernel
theorem inc_10_74 : inb 10 74 := by unfold inb; decide +kernel
theorem bp_114 : (Int8.ofInt 114).toInt32 = Int32.ofInt 114 := by decide +kernel
theorem inc_11_74 : inb 11 74 := by unfold inb; decide +kernel
theorem inc_12_74 : inb 12 74 := by unfold inb; decide +kernel
theorem inc_13_74 : inb 13 74 := by unfold inb; decide +kernel
theorem ixc_13 : ix 13 = 13 := by decide +kernel
theorem bp_14 : (Int8.ofInt 14).toInt32 = Int32.ofInt 14 := by decide +kernel
theorem inc_14_74 : inb 14 74 := by unfold inb; decide +kernel
theorem ixc_14 : ix 14 = 14 := by decide +kernel
theorem bp_15 : (Int8.ofInt 15).toInt32 = Int32.ofInt 15 := by decide +kernel
theorem inc_15_74 : inb 15 74 := by unfold inb; decide +kernel
theorem ixc_15 : ix 15 = 15 := by decide +kernel
theorem inc_16_74 : inb 16 74 := by unfold inb; decide +kernel
theorem ixc_16 : ix 16 = 16 := by decide +kernel
theorem bp_17 : (Int8.ofInt 17).toInt32 = Int32.ofInt 17 := by decide +kernel
theorem inc_17_74 : inb 17 74 := by unfold inb; decide +kernel
theorem ixc_17 : ix 17 = 17 := by decide +kernel
theorem bp_18 : (Int8.ofInt 18).toInt32 = Int32.ofInt 18 := by decide +kernel
theorem bp_110 : (Int8.ofInt 110).toInt32 = Int32.ofInt 110 := by decide +kernel
theorem inc_18_74 : inb 18 74 := by unfold inb; decide +kernel
theorem ixc_18 : ix 18 = 18 := by decide +kernel
theorem bp_19 : (Int8.ofInt 19).toInt32 = Int32.ofInt 19 := by decide +kernel
theorem inc_19_74 : inb 19 74 := by unfold inb; decide +kernel
theorem ixc_19 : ix 19 = 19 := by decide +kernel
theorem inc_20_74 : inb 20 74 := by unfold inb; decide +kernel
theorem ixc_20 : ix 20 = 20 := by decide +kernel
theorem inc_21_74 : inb 21 74 := by unfold inb; decide +kernel
theorem ixc_21 : ix 21 = 21 := by decide +kernel
theorem inc_22_74 : inb 22 74 := by unfold inb; decide +kernel
theorem ixc_22 : ix 22 = 22 := by decide +kernel
theorem bp_23 : (Int8.ofInt 23).toInt32 = Int32.ofInt 23 := by decide +kernel
theorem inc_23_74 : inb 23 74 := by unfold inb; decide +kernel
theorem ixc_23 : ix 23 = 23 := by decide +kernel
theorem inc_24_74 : inb 24 74 := by unfold inb; decide +kernel
theorem ixc_24 : ix 24 = 24 := by decide +kernel
theorem bp_25 : (Int8.ofInt 25).toInt32 = Int32.ofInt 25 := by decide +kernel
theorem bp_115 : (Int8.ofInt 115).toInt32 = Int32.ofInt 115 := by decide +kernel
theorem inc_25_74 : inb 25 74 := by unfold inb; decide +kernel
theorem ixc_25 : ix 25 = 25 := by decide +kernel
theorem bp_26 : (Int8.ofInt 26).toInt32 = Int32.ofInt 26 := by decide +kernel
theorem inc_26_74 : inb 26 74 := by unfold inb; decide +kernel
theorem ixc_26 : ix 26 = 26 := by decide +kernel
theorem bp_27 : (Int8.ofInt 27).toInt32 = Int32.ofInt 27 := by decide +kernel
theorem bp_98 : (Int8.ofInt 98).toInt32 = Int32.ofInt 98 := by decide +kernel
theorem inc_27_74 : inb 27 74 := by unfold inb; decide +kernel
theorem ixc_27 : ix 27 = 27 := by decide +kernel
theorem bp_28 : (Int8.ofInt 28).toInt32 = Int32.ofInt 28 := by decide +kernel
theorem bp_117 : (Int8.ofInt 117).toInt32 = Int32.ofInt 117 := by decide +kernel
theorem inc_28_74 : inb 28 74 := by unfold inb; decide +kernel
theorem ixc_28 : ix 28 = 28 := by decide +kernel
theorem bp_29 : (Int8.ofInt 29).toInt32 = Int32.ofInt 29 := by decide +kernel
theorem bp_102 : (Int8.ofInt 102).toInt32 = Int32.ofInt 102 := by decide +kernel
theorem inc_29_74 : inb 29 74 := by unfold inb; decide +kernel
theorem ixc_29 : ix 29 = 29 := by decide +kernel
theorem bp_30 : (Int8.ofInt 30).toInt32 = Int32.ofInt 30 := by decide +kernel
theorem inc_30_74 : inb 30 74 := by unfold inb; decide +kernel
theorem ixc_30 : ix 30 = 30 := by decide +kernel
theorem bp_31 : (Int8.ofInt 31).toInt32 = Int32.ofInt 31 := by decide +kernel
theorem inc_31_74 : inb 31 74 := by unfold inb; decide +kernel
theorem ixc_31 : ix 31 = 31 := by decide +kernel
theorem inc_32_74 : inb 32 74 := by unfold inb; decide +kernel
theorem ixc_32 : ix 32 = 32 := by decide +kernel
theorem bp_33 : (Int8.ofInt 33).toInt32 = Int32.ofInt 33 := by decide +kernel
theorem inc_33_74 : inb 33 74 := by unfold inb; decide +kernel
theorem ixc_33 : ix 33 = 33 := by decide +kernel
theorem bp_34 : (Int8.ofInt 34).toInt32 = Int32.ofInt 34 := by decide +kernel
theorem inc_34_74 : inb 34 74 := by unfold inb; decide +kernel
theorem ixc_34 : ix 34 = 34 := by decide +kernel
theorem bp_35 : (Int8.ofInt 35).toInt32 = Int32.ofInt 35 := by decide +kernel
theorem inc_35_74 : inb 35 74 := by unfold inb; decide +kernel
theorem ixc_35 : ix 35 = 35 := by decide +kernel
theorem bp_36 : (Int8.ofInt 36).toInt32 = Int32.ofInt 36 := by decide +kernel
theorem inc_36_74 : inb 36 74 := by unfold inb; decide +kernel
theorem ixc_36 : ix 36 = 36 := by decide +kernel
theorem bp_37 : (Int8.ofInt 37).toInt32 = Int32.ofInt 37 := by decide +kernel
theorem inc_37_74 : inb 37 74 := by unfold inb; decide +kernel
theorem ixc_37 : ix 37 = 37 := by decide +kernel
theorem bp_38 : (Int8.ofInt 38).toInt32 = Int32.ofInt 38 := by decide +kernel
theorem inc_38_74 : inb 38 74 := by unfold inb; decide +kernel
theorem ixc_38 : ix 38 = 38 := by decide +kernel
theorem bp_39 : (Int8.ofInt 39).toInt32 = Int32.ofInt 39 := by decide +kernel
theorem inc_39_74 : inb 39 74 := by unfold inb; decide +kernel
theorem ixc_39 : ix 39 = 39 := by decide +kernel
theorem bp_40 : (Int8.ofInt 40).toInt32 = Int32.ofInt 40 := by decide +kernel
theorem bp_112 : (Int8.ofInt 112).toInt32 = Int32.ofInt 112 := by decide +kernel
theorem inc_40_74 : inb 40 74 := by unfold inb; decide +kernel
theorem ixc_40 : ix 40 = 40 := by decide +kernel
theorem bp_41 : (Int8.ofInt 41).toInt32 = Int32.ofInt 41 := by decide +kernel
theorem inc_41_74 : inb 41 74 := by unfold inb; decide +kernel
theorem ixc_41 : ix 41 = 41 := by decide +kernel
theorem bp_42 : (Int8.ofInt 42).toInt32 = Int32.ofInt 42 := by decide +kernel
theorem inc_42_74 : inb 42 74 := by unfold inb; decide +kernel
theorem ixc_42 : ix 42 = 42 := by decide +kernel
theorem bp_43 : (Int8.ofInt 43).toInt32 = Int32.ofInt 43 := by decide +kernel
theorem inc_43_74 : inb 43 74 := by unfold inb; decide +kernel
theorem ixc_43 : ix 43 = 43 := by decide +kernel
theorem bp_44 : (Int8.ofInt 44).toInt32 = Int32.ofInt 44 := by decide +kernel
theorem inc_44_74 : inb 44 74 := by unfold inb; decide +kernel
theorem ixc_44 : ix 44 = 44 := by decide +kernel
theorem bp_45 : (Int8.ofInt 45).toInt32 = Int32.ofInt 45 := by decide +kernel
theorem bp_121 : (Int8.ofInt 121).toInt32 = Int32.ofInt 121 := by decide +kernel
theorem inc_45_74 : inb 45 74 := by unfold inb; decide +kernel
theorem ixc_45 : ix 45 = 45 := by decide +kernel
theorem bp_46 : (Int8.ofInt 46).toInt32 = Int32.ofInt 46 := by decide +kernel
theorem inc_46_74 : inb 46 74 := by unfold inb; decide +kernel
theorem ixc_46 : ix 46 = 46 := by decide +kernel
theorem bp_47 : (Int8.ofInt 47).toInt32 = Int32.ofInt 47 := by decide +kernel
theorem inc_47_74 : inb 47 74 := by unfold inb; decide +kernel
theorem ixc_47 : ix 47 = 47 := by decide +kernel
theorem inc_48_74 : inb 48 74 := by unfold inb; decide +kernel
theorem ixc_48 : ix 48 = 48 := by decide +kernel
theorem bp_49 : (Int8.ofInt 49).toInt32 = Int32.ofInt 49 := by decide +kernel
theorem inc_49_74 : inb 49 74 := by unfold inb; decide +kernel
theorem ixc_49 : ix 49 = 49 := by decide +kernel
theorem inc_50_74 : inb 50 74 := by unfold inb; decide +kernel
theorem ixc_50 : ix 50 = 50 := by decide +kernel
theorem bp_51 : (Int8.ofInt 51).toInt32 = Int32.ofInt 51 := by decide +kernel
theorem inc_51_74 : inb 51 74 := by unfold inb; decide +kernel
theorem ixc_51 : ix 51 = 51 := by decide +kernel
theorem bp_52 : (Int8.ofInt 52).toInt32 = Int32.ofInt 52 := by decide +kernel
theorem inc_52_74 : inb 52 74 := by unfold inb; decide +kernel
theorem ixc_52 : ix 52 = 52 := by decide +kernel
theorem bp_53 : (Int8.ofInt 53).toInt32 = Int32.ofInt 53 := by decide +kernel
theorem inc_53_74 : inb 53 74 := by unfold inb; decide +kernel
theorem ixc_53 : ix 53 = 53 := by decide +kernel
theorem bp_54 : (Int8.ofInt 54).toInt32 = Int32.ofInt 54 := by decide +kernel
theorem inc_54_74 : inb 54 74 := by unfold inb; decide +kernel
theorem ixc_54 : ix 54 = 54 := by decide +kernel
theorem bp_55 : (Int8.ofInt 55).toInt32 = Int32.ofInt 55 := by decide +kernel
theorem inc_55_74 : inb 55 74 := by unfold inb; decide +kernel
theorem ixc_55 : ix 55 = 55 := by decide +kernel
theorem bp_56 : (Int8.ofInt 56).toInt32 = Int32.ofInt 56 := by decide +kernel
theorem inc_56_74 : inb 56 74 := by unfold inb; decide +kernel
theorem ixc_56 : ix 56 = 56 := by decide +kernel
theorem inc_57_74 : inb 57 74 := by unfold inb; decide +kernel
theorem ixc_57 : ix 57 = 57 := by decide +kernel
theorem bp_58 : (Int8.ofInt 58).toInt32 = Int32.ofInt 58 := by decide +kernel
theorem inc_58_74 : inb 58 74 := by unfold inb; decide +kernel
theorem ixc_58 : ix 58 = 58 := by decide +kernel
theorem inc_59_74 : inb 59 74 := by unfold inb; decide +kernel
theorem ixc_59 : ix 59 = 59 := by decide +kernel
theorem bp_60 : (Int8.ofInt 60).toInt32 = Int32.ofInt 60 := by decide +kernel
theorem inc_60_74 : inb 60 74 := by unfold inb; decide +kernel
theorem ixc_60 : ix 60 = 60 := by decide +kernel
theorem bp_61 : (Int8.ofInt 61).toInt32 = Int32.ofInt 61 := by decide +kernel
theorem bp_103 : (Int8.ofInt 103).toInt32 = Int32.ofInt 103 := by decide +kernel
theorem inc_61_74 : inb 61 74 := by unfold inb; decide +kernel
theorem ixc_61 : ix 61 = 61 := by decide +kernel
theorem bp_62 : (Int8.ofInt 62).toInt32 = Int32.ofInt 62 := by decide +kernel
theorem inc_62_74 : inb 62 74 := by unfold inb; decide +kernel
theorem ixc_62 : ix 62 = 62 := by decide +kernel
theorem inc_63_74 : inb 63 74 := by unfold inb; decide +kernel
theorem ixc_63 : ix 63 = 63 := by decide +kernel
theorem inc_64_74 : inb 64 74 := by unfold inb; decide +kernel
theorem ixc_64 : ix 64 = 64 := by decide +kernel
theorem bp_65 : (Int8.ofInt 65).toInt32 = Int32.ofInt 65 := by decide +kernel
theorem inc_65_74 : inb 65 74 := by unfold inb; decide +kernel
theorem ixc_65 : ix 65 = 65 := by decide +kernel
theorem bp_66 : (Int8.ofInt 66).toInt32 = Int32.ofInt 66 := by decide +kernel
theorem inc_66_74 : inb 66 74 := by unfold inb; decide +kernel
theorem ixc_66 : ix 66 = 66 := by decide +kernel
theorem bp_67 : (Int8.ofInt 67).toInt32 = Int32.ofInt 67 := by decide +kernel
theorem inc_67_74 : inb 67 74 := by unfold inb; decide +kernel
theorem ixc_67 : ix 67 = 67 := by decide +kernel
theorem bp_68 : (Int8.ofInt 68).toInt32 = Int32.ofInt 68 := by decide +kernel
theorem inc_68_74 : inb 68 74 := by unfold inb; decide +kernel
theorem ixc_68 : ix 68 = 68 := by decide +kernel
theorem bp_69 : (Int8.ofInt 69).toInt32 = Int32.ofInt 69 := by decide +kernel
theorem inc_69_74 : inb 69 74 := by unfold inb; decide +kernel
theorem ixc_69 : ix 69 = 69 := by decide +kernel
theorem bp_70 : (Int8.ofInt 70).toInt32 = Int32.ofInt 70 := by decide +kernel
theorem inc_70_74 : inb 70 74 := by unfold inb; decide +kernel
theorem ixc_70 : ix 70 = 70 := by decide +kernel
theorem bp_71 : (Int8.ofInt 71).toInt32 = Int32.ofInt 71 := by decide +kernel
theorem inc_71_74 : inb 71 74 := by unfold inb; decide +kernel
theorem ixc_71 : ix 71 = 71 := by decide +kernel
theorem bp_72 : (Int8.ofInt 72).toInt32 = Int32.ofInt 72 := by decide +kernel
theorem inc_72_74 : inb 72 74 := by unfold inb; decide +kernel
theorem ixc_72 : ix 72 = 72 := by decide +kernel
theorem bp_73 : (Int8.ofInt 73).toInt32 = Int32.ofInt 73 := by decide +kernel
theorem inc_73_74 : inb 73 74 := by unfold inb; decide +kernel
theorem ixc_73 : ix 73 = 73 := by decide +kernel
/-- the cells of the model -/
def MOK (G : Gx) : Prop := ∀ i, 139 ≤ i → i < 157 → i ∈ gL G
theorem MOK_of {G : Gx} {L : List Nat} (hL : gL G = L) (h : (List.range 18).all (fun i => L.contains (139 + i)) = true) : MOK G := by
  intro i h1 h2
  have := List.all_eq_true.mp h (i - 139) (List.mem_range.mpr (by omega))
  rw [show 139 + (i - 139) = i by omega] at this
  rw [hL]
  simpa using this
theorem stm139 {G : Gx} (hG : MOK G) : at_ G 139 21 0 := ⟨hG 139 (by decide) (by decide), by decide +kernel⟩
theorem stm140 {G : Gx} (hG : MOK G) : at_ G 140 1 469 := ⟨hG 140 (by decide) (by decide), by decide +kernel⟩
set_option maxRecDepth 100000 in
set_option maxHeartbeats 4000000 in
theorem tm_X12_begins_2 {X : Cxt} (hX : Gd X RX12 cX12_begins 2 (none) 1) (hs : MOK (xG X))  (x1 : Int) (M : Mem) {Q : State → Prop} (o : (Int × Mem) ⊕ ((Mem) ⊕ (Mem))) (h : s_X12_begins_2 x1 M = some o) (hP : ∀ y, o = .inl y → V X 0 0 Q 2 [some (vr (xG X) 139), some (vi y.1)] [] y.2) (hE : ∀ z, o = .inr (.inl z) → V X 0 0 Q 22 [some (vr (xG X) 139), none] [] z) (hR : ∀ q, o = .inr (.inr q) → Q = Qn X none q) : V X 0 0 Q 2 [some (vr (xG X) 139), some (vi x1)] [] M := by
  unfold s_X12_begins_2 at h
  refine x_iloadn hX dX12_begins_2 rfl ?_
  refine x_sipush hX dX12_begins_3 sp_469 ?_
  refine x_icmp_ge (tgt := 22) hX dX12_begins_6 (by decide) rfl cw_469 (fun hc => ?_) (fun hc => ?_)
  · replace h := (if_pos hc).symm.trans h
    refine x_aloadn hX dX12_begins_9 rfl ?_
    refine x_getRj (j := 140) hX dX12_begins_10 fl_X12_7 rfl (stm139 hs) rfl ?_
    refine x_iloadn hX dX12_begins_13 rfl ?_
    refine x_iconst hX dX12_begins_14 ?_
    obtain ⟨b_2, h⟩ := gi_of h
    obtain ⟨M_1, eM_1, h⟩ := bnd_of h
    refine x_iast hX dX12_begins_15 (stm140 hs) b_2 rfl (x_meq eM_1 ?_)
    obtain ⟨x1_3, ex1_3, h⟩ := bnd_of h
    refine x_iinc (ls' := [some (vr (xG X) 139), some (vi x1_3)]) hX dX12_begins_16 rfl rfl ex1_3 rfl ?_
    refine x_goto (tgt := 2) hX dX12_begins_19 (by decide) ?_
    exact x_weak [true, true] rfl (hP (x1_3, M_1) (Option.some.inj h).symm)
  · replace h := (if_neg hc).symm.trans h
    exact x_weak [true, false] rfl (hE M (Option.some.inj h).symm)

set_option maxRecDepth 100000 in
set_option maxHeartbeats 4000000 in
theorem cm_X12_begins {l : Launch} {G : Gx} (hG : GOK G) (hl : l.stackTraces = false) (hs : MOK G)  (M : Mem) (Mr : Mem) (h : f_X12_begins M = some Mr) : Cn l G mX12_begins 1 [vr G 139] M none Mr := by
  refine Cn_of2 (ls := [some (vr G 139), none]) hG hl kX12_begins rfl (Nat.le_of_ble_eq_true rfl) rfl rfl rfl rfl rfl (fun X eG el hX => ?_)
  subst eG; subst el
  unfold f_X12_begins at h
  refine x_iconst hX dX12_begins_0 ?_
  refine x_istoren (ls' := [some (vr (xG X) 139), some (vi 0)]) hX dX12_begins_1 rfl rfl rfl ?_
  refine x_weak (ls' := [some (vr (xG X) 139), some (vi 0)]) [true, true] rfl ?_
  refine lp_use (x := (0, M)) (P := fun x => V X 0 0 (Qn X none Mr) 2 [some (vr (xG X) 139), some (vi x.1)] [] x.2) (PE := fun z_4 => V X 0 0 (Qn X none Mr) 22 [some (vr (xG X) 139), none] [] z_4) (PR := fun q => (Qn X none Mr) = Qn X none q) h (fun x o hh hP hE hR => tm_X12_begins_2 hX hs x.1 x.2 o hh hP hE hR) (fun z_4 h => ?_) (fun q h => ?_)
  · show V X 0 0 (Qn X none Mr) 22 [some (vr (xG X) 139), none] [] z_4
    refine x_aloadn hX dX12_begins_22 rfl ?_
    refine x_getRj (j := 140) hX dX12_begins_23 fl_X12_7 rfl (stm139 hs) rfl ?_
    refine x_iconst hX dX12_begins_26 ?_
    refine x_iconst hX dX12_begins_27 ?_
    obtain ⟨M_5, eM_5, h⟩ := bnd_of h
    refine x_iast hX dX12_begins_28 (stm140 hs) inc_0_469 ixc_0 (x_meq eM_5 ?_)
    refine x_aloadn hX dX12_begins_29 rfl ?_
    refine x_getRj (j := 140) hX dX12_begins_30 fl_X12_7 rfl (stm139 hs) rfl ?_
    refine x_iconst hX dX12_begins_33 ?_
    refine x_bipush hX dX12_begins_34 bp_10 ?_
    obtain ⟨M_6, eM_6, h⟩ := bnd_of h
    refine x_iast hX dX12_begins_36 (stm140 hs) inc_1_469 ixc_1 (x_meq eM_6 ?_)
    refine x_aloadn hX dX12_begins_37 rfl ?_
    refine x_getRj (j := 140) hX dX12_begins_38 fl_X12_7 rfl (stm139 hs) rfl ?_
    refine x_iconst hX dX12_begins_41 ?_
    refine x_iconst hX dX12_begins_42 ?_
    obtain ⟨M_7, eM_7, h⟩ := bnd_of h
    refine x_iast hX dX12_begins_43 (stm140 hs) inc_2_469 ixc_2 (x_meq eM_7 ?_)
    refine x_aloadn hX dX12_begins_44 rfl ?_
    refine x_getRj (j := 140) hX dX12_begins_45 fl_X12_7 rfl (stm139 hs) rfl ?_
    refine x_bipush hX dX12_begins_48 bp_7 ?_
    refine x_iconst hX dX12_begins_50 ?_
    obtain ⟨M_8, eM_8, h⟩ := bnd_of h
    refine x_iast hX dX12_begins_51 (stm140 hs) inc_7_469 ixc_7 (x_meq eM_8 ?_)
    refine x_aloadn hX dX12_begins_52 rfl ?_
    refine x_getRj (j := 140) hX dX12_begins_53 fl_X12_7 rfl (stm139 hs) rfl ?_
    refine x_bipush hX dX12_begins_56 bp_8 ?_
    refine x_iconst hX dX12_begins_58 ?_
    obtain ⟨M_9, eM_9, h⟩ := bnd_of h
    refine x_iast hX dX12_begins_59 (stm140 hs) inc_8_469 ixc_8 (x_meq eM_9 ?_)
    refine x_aloadn hX dX12_begins_60 rfl ?_
    refine x_getRj (j := 140) hX dX12_begins_61 fl_X12_7 rfl (stm139 hs) rfl ?_
    refine x_bipush hX dX12_begins_64 bp_9 ?_
    refine x_iconst hX dX12_begins_66 ?_
    obtain ⟨M_10, eM_10, h⟩ := bnd_of h
    refine x_iast hX dX12_begins_67 (stm140 hs) inc_9_469 ixc_9 (x_meq eM_10 ?_)
    refine x_aloadn hX dX12_begins_68 rfl ?_
    refine x_getRj (j := 140) hX dX12_begins_69 fl_X12_7 rfl (stm139 hs) rfl ?_
    refine x_bipush hX dX12_begins_72 bp_10 ?_
    refine x_iconst hX dX12_begins_74 ?_
    obtain ⟨M_11, eM_11, h⟩ := bnd_of h
    refine x_iast hX dX12_begins_75 (stm140 hs) inc_10_469 ixc_10 (x_meq eM_11 ?_)
    refine x_aloadn hX dX12_begins_76 rfl ?_
    refine x_getRj (j := 140) hX dX12_begins_77 fl_X12_7 rfl (stm139 hs) rfl ?_
    refine x_bipush hX dX12_begins_80 bp_12 ?_
    refine x_iconst hX dX12_begins_82 ?_
    obtain ⟨M_12, eM_12, h⟩ := bnd_of h
    refine x_iast hX dX12_begins_83 (stm140 hs) inc_12_469 ixc_12 (x_meq eM_12 ?_)
    cases h
    exact x_vret hX dX12_begins_84 rfl
  · cases h; rfl
