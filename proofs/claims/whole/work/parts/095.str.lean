-- ===== String constants: length and charAt (written by wip/gen/strgen.py) =====
def m_strlen : Mth := (yJ0_length_8abf5, cJ0_length_8abf5, 1, some .int)
theorem k_strlen : MK m_strlen 0 := ⟨ws_of 804 (by decide +kernel) (by decide +kernel), ws_of 172 (by decide +kernel) (by decide +kernel), by decide +kernel, Nat.le_of_ble_eq_true rfl, by decide +kernel⟩
theorem v_strlen : MV m_strlen := ⟨ws_of 802 (by decide +kernel) (by decide +kernel), ws_of 803 (by decide +kernel) (by decide +kernel)⟩
theorem dJ0_length_8abf5_0 : decode cJ0_length_8abf5 0 = .ok (.aload_n 0, 1) := by decide +kernel
theorem dJ0_length_8abf5_1 : decode cJ0_length_8abf5 1 = .ok (.getfield 9, 3) := by decide +kernel
theorem dJ0_length_8abf5_4 : decode cJ0_length_8abf5 4 = .ok (.arraylength, 1) := by decide +kernel
theorem dJ0_length_8abf5_5 : decode cJ0_length_8abf5 5 = .ok (.aload_n 0, 1) := by decide +kernel
theorem dJ0_length_8abf5_6 : decode cJ0_length_8abf5 6 = .ok (.invokevirtual 335, 3) := by decide +kernel
theorem dJ0_length_8abf5_9 : decode cJ0_length_8abf5 9 = .ok (.ishr, 1) := by decide +kernel
theorem dJ0_length_8abf5_10 : decode cJ0_length_8abf5 10 = .ok (.ireturn, 1) := by decide +kernel
def m_strchr : Mth := (yJ0_charAt_5068e, cJ0_charAt_5068e, 2, some .char)
theorem k_strchr : MK m_strchr 1 := ⟨ws_of 814 (by decide +kernel) (by decide +kernel), ws_of 172 (by decide +kernel) (by decide +kernel), by decide +kernel, Nat.le_of_ble_eq_true rfl, by decide +kernel⟩
theorem v_strchr : MV m_strchr := ⟨ws_of 812 (by decide +kernel) (by decide +kernel), ws_of 813 (by decide +kernel) (by decide +kernel)⟩
theorem dJ0_charAt_5068e_0 : decode cJ0_charAt_5068e 0 = .ok (.aload_n 0, 1) := by decide +kernel
theorem dJ0_charAt_5068e_1 : decode cJ0_charAt_5068e 1 = .ok (.invokevirtual 492, 3) := by decide +kernel
theorem dJ0_charAt_5068e_4 : decode cJ0_charAt_5068e 4 = .ok (.ifCond .eq 12, 3) := by decide +kernel
theorem dJ0_charAt_5068e_7 : decode cJ0_charAt_5068e 7 = .ok (.aload_n 0, 1) := by decide +kernel
theorem dJ0_charAt_5068e_8 : decode cJ0_charAt_5068e 8 = .ok (.getfield 9, 3) := by decide +kernel
theorem dJ0_charAt_5068e_11 : decode cJ0_charAt_5068e 11 = .ok (.iload_n 1, 1) := by decide +kernel
theorem dJ0_charAt_5068e_12 : decode cJ0_charAt_5068e 12 = .ok (.invokestatic 495, 3) := by decide +kernel
theorem dJ0_charAt_5068e_15 : decode cJ0_charAt_5068e 15 = .ok (.ireturn, 1) := by decide +kernel
theorem dJ0_charAt_5068e_16 : decode cJ0_charAt_5068e 16 = .ok (.aload_n 0, 1) := by decide +kernel
theorem dJ0_charAt_5068e_17 : decode cJ0_charAt_5068e 17 = .ok (.getfield 9, 3) := by decide +kernel
theorem dJ0_charAt_5068e_20 : decode cJ0_charAt_5068e 20 = .ok (.iload_n 1, 1) := by decide +kernel
theorem dJ0_charAt_5068e_21 : decode cJ0_charAt_5068e 21 = .ok (.invokestatic 498, 3) := by decide +kernel
theorem dJ0_charAt_5068e_24 : decode cJ0_charAt_5068e 24 = .ok (.ireturn, 1) := by decide +kernel
def m_coder : Mth := (yJ0_coder_7d493, cJ0_coder_7d493, 1, some .byte)
theorem k_coder : MK m_coder 0 := ⟨ws_of 808 (by decide +kernel) (by decide +kernel), ws_of 172 (by decide +kernel) (by decide +kernel), by decide +kernel, Nat.le_of_ble_eq_true rfl, by decide +kernel⟩
theorem v_coder : MV m_coder := ⟨ws_of 806 (by decide +kernel) (by decide +kernel), ws_of 807 (by decide +kernel) (by decide +kernel)⟩
theorem dJ0_coder_7d493_0 : decode cJ0_coder_7d493 0 = .ok (.getstatic 38, 3) := by decide +kernel
theorem dJ0_coder_7d493_3 : decode cJ0_coder_7d493 3 = .ok (.ifCond .eq 10, 3) := by decide +kernel
theorem dJ0_coder_7d493_6 : decode cJ0_coder_7d493 6 = .ok (.aload_n 0, 1) := by decide +kernel
theorem dJ0_coder_7d493_7 : decode cJ0_coder_7d493 7 = .ok (.getfield 15, 3) := by decide +kernel
theorem dJ0_coder_7d493_10 : decode cJ0_coder_7d493 10 = .ok (.goto 4, 3) := by decide +kernel
theorem dJ0_coder_7d493_13 : decode cJ0_coder_7d493 13 = .ok (.iconst 1, 1) := by decide +kernel
theorem dJ0_coder_7d493_14 : decode cJ0_coder_7d493 14 = .ok (.ireturn, 1) := by decide +kernel
def m_lat : Mth := (yJ0_isLatin1_aae02, cJ0_isLatin1_aae02, 1, some .boolean)
theorem k_lat : MK m_lat 0 := ⟨ws_of 818 (by decide +kernel) (by decide +kernel), ws_of 172 (by decide +kernel) (by decide +kernel), by decide +kernel, Nat.le_of_ble_eq_true rfl, by decide +kernel⟩
theorem v_lat : MV m_lat := ⟨ws_of 816 (by decide +kernel) (by decide +kernel), ws_of 817 (by decide +kernel) (by decide +kernel)⟩
theorem dJ0_isLatin1_aae02_0 : decode cJ0_isLatin1_aae02 0 = .ok (.getstatic 38, 3) := by decide +kernel
theorem dJ0_isLatin1_aae02_3 : decode cJ0_isLatin1_aae02 3 = .ok (.ifCond .eq 14, 3) := by decide +kernel
theorem dJ0_isLatin1_aae02_6 : decode cJ0_isLatin1_aae02 6 = .ok (.aload_n 0, 1) := by decide +kernel
theorem dJ0_isLatin1_aae02_7 : decode cJ0_isLatin1_aae02 7 = .ok (.getfield 15, 3) := by decide +kernel
theorem dJ0_isLatin1_aae02_10 : decode cJ0_isLatin1_aae02 10 = .ok (.ifCond .ne 7, 3) := by decide +kernel
theorem dJ0_isLatin1_aae02_13 : decode cJ0_isLatin1_aae02 13 = .ok (.iconst 1, 1) := by decide +kernel
theorem dJ0_isLatin1_aae02_14 : decode cJ0_isLatin1_aae02 14 = .ok (.goto 4, 3) := by decide +kernel
theorem dJ0_isLatin1_aae02_17 : decode cJ0_isLatin1_aae02 17 = .ok (.iconst 0, 1) := by decide +kernel
theorem dJ0_isLatin1_aae02_18 : decode cJ0_isLatin1_aae02 18 = .ok (.ireturn, 1) := by decide +kernel
def m_sci : Mth := (yJ0_checkIndex_df160, cJ0_checkIndex_df160, 2, none)
theorem k_sci : MK m_sci 2 := ⟨ws_of 824 (by decide +kernel) (by decide +kernel), ws_of 172 (by decide +kernel) (by decide +kernel), by decide +kernel, Nat.le_of_ble_eq_true rfl, by decide +kernel⟩
theorem s_sci : MS m_sci := ws_of 823 (by decide +kernel) (by decide +kernel)
theorem dJ0_checkIndex_df160_0 : decode cJ0_checkIndex_df160 0 = .ok (.iload_n 0, 1) := by decide +kernel
theorem dJ0_checkIndex_df160_1 : decode cJ0_checkIndex_df160 1 = .ok (.iload_n 1, 1) := by decide +kernel
theorem dJ0_checkIndex_df160_2 : decode cJ0_checkIndex_df160 2 = .ok (.getstatic 1053, 3) := by decide +kernel
theorem dJ0_checkIndex_df160_5 : decode cJ0_checkIndex_df160 5 = .ok (.invokestatic 1059, 3) := by decide +kernel
theorem dJ0_checkIndex_df160_8 : decode cJ0_checkIndex_df160 8 = .ok (.pop, 1) := by decide +kernel
theorem dJ0_checkIndex_df160_9 : decode cJ0_checkIndex_df160 9 = .ok (.return_, 1) := by decide +kernel
def m_lch : Mth := (yJ1_charAt_3b067, cJ1_charAt_3b067, 2, some .char)
theorem k_lch : MK m_lch 2 := ⟨ws_of 821 (by decide +kernel) (by decide +kernel), ws_of 173 (by decide +kernel) (by decide +kernel), by decide +kernel, Nat.le_of_ble_eq_true rfl, by decide +kernel⟩
theorem s_lch : MS m_lch := ws_of 820 (by decide +kernel) (by decide +kernel)
theorem dJ1_charAt_3b067_0 : decode cJ1_charAt_3b067 0 = .ok (.iload_n 1, 1) := by decide +kernel
theorem dJ1_charAt_3b067_1 : decode cJ1_charAt_3b067 1 = .ok (.aload_n 0, 1) := by decide +kernel
theorem dJ1_charAt_3b067_2 : decode cJ1_charAt_3b067 2 = .ok (.arraylength, 1) := by decide +kernel
theorem dJ1_charAt_3b067_3 : decode cJ1_charAt_3b067 3 = .ok (.invokestatic 9, 3) := by decide +kernel
theorem dJ1_charAt_3b067_6 : decode cJ1_charAt_3b067 6 = .ok (.aload_n 0, 1) := by decide +kernel
theorem dJ1_charAt_3b067_7 : decode cJ1_charAt_3b067 7 = .ok (.iload_n 1, 1) := by decide +kernel
theorem dJ1_charAt_3b067_8 : decode cJ1_charAt_3b067 8 = .ok (.baload, 1) := by decide +kernel
theorem dJ1_charAt_3b067_9 : decode cJ1_charAt_3b067 9 = .ok (.sipush 255, 3) := by decide +kernel
theorem dJ1_charAt_3b067_12 : decode cJ1_charAt_3b067 12 = .ok (.iand, 1) := by decide +kernel
theorem dJ1_charAt_3b067_13 : decode cJ1_charAt_3b067 13 = .ok (.i2c, 1) := by decide +kernel
theorem dJ1_charAt_3b067_14 : decode cJ1_charAt_3b067 14 = .ok (.ireturn, 1) := by decide +kernel
def m_pci : Mth := (yJ3_checkIndex_8e157, cJ3_checkIndex_8e157, 3, some .int)
theorem k_pci : MK m_pci 3 := ⟨ws_of 829 (by decide +kernel) (by decide +kernel), ws_of 174 (by decide +kernel) (by decide +kernel), by decide +kernel, Nat.le_of_ble_eq_true rfl, by decide +kernel⟩
theorem s_pci : MS m_pci := ws_of 828 (by decide +kernel) (by decide +kernel)
theorem dJ3_checkIndex_8e157_0 : decode cJ3_checkIndex_8e157 0 = .ok (.iload_n 0, 1) := by decide +kernel
theorem dJ3_checkIndex_8e157_1 : decode cJ3_checkIndex_8e157 1 = .ok (.ifCond .lt 8, 3) := by decide +kernel
theorem dJ3_checkIndex_8e157_4 : decode cJ3_checkIndex_8e157 4 = .ok (.iload_n 0, 1) := by decide +kernel
theorem dJ3_checkIndex_8e157_5 : decode cJ3_checkIndex_8e157 5 = .ok (.iload_n 1, 1) := by decide +kernel
theorem dJ3_checkIndex_8e157_6 : decode cJ3_checkIndex_8e157 6 = .ok (.if_icmp .lt 10, 3) := by decide +kernel
theorem dJ3_checkIndex_8e157_9 : decode cJ3_checkIndex_8e157 9 = .ok (.aload_n 2, 1) := by decide +kernel
theorem dJ3_checkIndex_8e157_10 : decode cJ3_checkIndex_8e157 10 = .ok (.iload_n 0, 1) := by decide +kernel
theorem dJ3_checkIndex_8e157_11 : decode cJ3_checkIndex_8e157 11 = .ok (.iload_n 1, 1) := by decide +kernel
theorem dJ3_checkIndex_8e157_12 : decode cJ3_checkIndex_8e157 12 = .ok (.invokestatic 95, 3) := by decide +kernel
theorem dJ3_checkIndex_8e157_15 : decode cJ3_checkIndex_8e157 15 = .ok (.athrow, 1) := by decide +kernel
theorem dJ3_checkIndex_8e157_16 : decode cJ3_checkIndex_8e157 16 = .ok (.iload_n 0, 1) := by decide +kernel
theorem dJ3_checkIndex_8e157_17 : decode cJ3_checkIndex_8e157 17 = .ok (.ireturn, 1) := by decide +kernel
theorem l_value : Cond.fieldLink "java/lang/String" 9 "java/lang/String" "value" "[B" ∈ WS := ws_of 2363 (by decide +kernel) (by decide +kernel)
theorem l_coder : Cond.fieldLink "java/lang/String" 15 "java/lang/String" "coder" "B" ∈ WS := ws_of 2364 (by decide +kernel) (by decide +kernel)
theorem l_compact : Cond.fieldLink "java/lang/String" 38 "java/lang/String" "COMPACT_STRINGS" "Z" ∈ WS := ws_of 809 (by decide +kernel) (by decide +kernel)
theorem l_form : Cond.fieldLink "java/lang/String" 1053 "jdk/internal/util/Preconditions" "SIOOBE_FORMATTER" "Ljava/util/function/BiFunction;" ∈ WS := ws_of 825 (by decide +kernel) (by decide +kernel)
theorem k_l335 : Cond.methodLink "java/lang/String" 335 (mY m_coder) ∈ WS := ws_of 805 (by decide +kernel) (by decide +kernel)
theorem k_l492 : Cond.methodLink "java/lang/String" 492 (mY m_lat) ∈ WS := ws_of 815 (by decide +kernel) (by decide +kernel)
theorem k_l495 : Cond.methodLink "java/lang/String" 495 (mY m_lch) ∈ WS := ws_of 819 (by decide +kernel) (by decide +kernel)
theorem k_l9 : Cond.methodLink "java/lang/StringLatin1" 9 (mY m_sci) ∈ WS := ws_of 822 (by decide +kernel) (by decide +kernel)
theorem k_l1059 : Cond.methodLink "java/lang/String" 1059 (mY m_pci) ∈ WS := ws_of 827 (by decide +kernel) (by decide +kernel)
section VSTR
variable {X : Cxt} {k n : Nat} {Q : State → Prop} {pc : Nat} {ls ls' : List (Option Value)} {st : List Value} {M : Mem} {own : String} {cc : ByteArray} {nL lv : Nat} {ret : Option FieldType}
theorem x_nret {ty : FieldType} (hX : Gd X own cc nL (some ty) lv) {v : Int} (d : decode cc pc = .ok (.ireturn, 1)) (hn : narrow ty (.int (Int32.ofInt v)) = .int (Int32.ofInt v)) : V X 0 0 (Qn X (some (vi v)) M) pc ls [vi v] M := by
  intro H locs la hl' hP hD hS
  exact W.zret hX.1 hX.2.1 hX.2.2.2.2.2.2.1 hn (fun t ht hW => ⟨⟨rfl, x_wd hX hP hD hS ht hW⟩, hS.F ht⟩) hS.2.2 d hX.2.2.2.2.2.1
theorem x_qload (hX : Gd X own cc nL ret lv) {j : Fin 4} {a : Nat} (d : decode cc pc = .ok (.aload_n j, 1)) (hi : ls[(j : Nat)]? = some (some (.ref a))) (kk : V X k n Q (pc + 1) ls (.ref a :: st) M) : V X k n Q pc ls st M :=
  fun H locs la hl hP hD hS => lv_aload_n hX.1 hX.2.1 d rfl (hl.at hi) (kk H locs la hl hP hD hS)
theorem x_compact (hX : Gd X "java/lang/String" cc nL ret lv) (d : decode cc pc = .ok (.getstatic 38, 3)) (kk : V X k n Q (pc + 3) ls (vi 1 :: st) M) : V X k n Q pc ls st M :=
  fun H locs la hl hP hD hS => va_gets hX.1 hX.2.1 hX.2.2.2.2.2.2.2.2.2.2.2.2.1.2.2.2.2.1 (s0X hX hS) hX.2.2.2.1 (hX.2.2.2.2.1 _ l_compact) (fun _ h => h) d (kk H locs la hl hP hD hS)
theorem x_coder (hX : Gd X "java/lang/String" cc nL ret lv) {w : Nat} (hw : Nat.blt w 12 = true) (d : decode cc pc = .ok (.getfield 15, 3)) (kk : V X k n Q (pc + 3) ls (vi 0 :: st) M) : V X k n Q pc ls (vsz (xG X) w :: st) M :=
  fun H locs la hl hP hD hS => vk_getf hX.1 hX.2.1 (hX.2.2.2.2.2.2.2.2.2.2.2.2.1.2.2.2.1.1 w (Nat.le_of_ble_eq_true hw)).2.1 (s0X hX hS) hX.2.2.2.1 (hX.2.2.2.2.1 _ l_coder) (fun _ h => h) d (kk H locs la hl hP hD hS)
theorem x_value (hX : Gd X "java/lang/String" cc nL ret lv) {w : Nat} (hw : Nat.blt w 12 = true) (d : decode cc pc = .ok (.getfield 9, 3)) (kk : V X k n Q (pc + 3) ls (.ref (gsV (xG X) w) :: st) M) : V X k n Q pc ls (vsz (xG X) w :: st) M :=
  fun H locs la hl hP hD hS => vk_getf hX.1 hX.2.1 (hX.2.2.2.2.2.2.2.2.2.2.2.2.1.2.2.2.1.1 w (Nat.le_of_ble_eq_true hw)).2.2.1 (s0X hX hS) hX.2.2.2.1 (hX.2.2.2.2.1 _ l_value) (fun _ h => h) d (kk H locs la hl hP hD hS)
theorem x_tlen (hX : Gd X own cc nL ret lv) {w : Nat} (hw : Nat.blt w 12 = true) (d : decode cc pc = .ok (.arraylength, 1)) (kk : V X k n Q (pc + 1) ls (vi (s_len w) :: st) M) : V X k n Q pc ls (.ref (gsV (xG X) w) :: st) M :=
  fun H locs la hl hP hD hS => va_tlen hX.1 hX.2.1 (hX.2.2.2.2.2.2.2.2.2.2.2.2.1.2.2.2.1.1 w (Nat.le_of_ble_eq_true hw)).2.2.2 (s0X hX hS) (by unfold s_len; rw [Int32.ofInt_eq_ofNat]) d (kk H locs la hl hP hD hS)
theorem x_tb (hX : Gd X own cc nL ret lv) {w : Nat} (hw : Nat.blt w 12 = true) {i : Int} (hi : 0 ≤ w32 i ∧ w32 i < s_len w) (d : decode cc pc = .ok (.baload, 1)) (kk : V X k n Q (pc + 1) ls (vi ((bytS.getD w []).getD (ix i) 0).toInt :: st) M) : V X k n Q pc ls (vi i :: .ref (gsV (xG X) w) :: st) M :=
  fun H locs la hl hP hD hS => va_tb hX.1 hX.2.1 (hX.2.2.2.2.2.2.2.2.2.2.2.2.1.2.2.2.1.1 w (Nat.le_of_ble_eq_true hw)).2.2.2 (s0X hX hS) (inb_vp (N := lenS.getD w 0) hi) (v := vi ((bytS.getD w []).getD (ix i) 0).toInt) (by rw [vi_toInt]; rfl) d (kk H locs la hl hP hD hS)
theorem x_form (hX : Gd X "java/lang/String" cc nL ret lv) (d : decode cc pc = .ok (.getstatic 1053, 3)) (kk : ∀ v : Value, v.category = 1 → V X k n Q (pc + 3) ls (v :: st) M) : V X k n Q pc ls st M := by
  intro H locs la hl hP hD hS
  rcases hX.2.2.2.2.2.2.2.2.2.2.2.2.1.2.2.2.2.2.1 with h | ⟨t, h⟩
  · exact va_gets hX.1 hX.2.1 h (s0X hX hS) hX.2.2.2.1 (hX.2.2.2.2.1 _ l_form) (fun _ h => h) d (kk .null rfl H locs la hl hP hD hS)
  · exact va_gets hX.1 hX.2.1 h (s0X hX hS) hX.2.2.2.1 (hX.2.2.2.2.1 _ l_form) (fun _ h => h) d (kk (.ref t) rfl H locs la hl hP hD hS)
end VSTR
set_option maxRecDepth 100000 in
theorem c_pci {l : Launch} {G : Gx} (hG : GOK G) (hl : l.stackTraces = false) (a b : Int) (fm : Value) (hfm : fm.category = 1) (h1 : ¬ w32 a < 0) (h2 : w32 a < w32 b) (M : Mem) : Cn l G m_pci 1 [vi a, vi b, fm] M (some (vi a)) M := by
  refine Cn_of (ls := [some (vi a), some (vi b), some fm]) hG hl k_pci (fun v hv => ?_) (Nat.le_of_ble_eq_true rfl) rfl rfl rfl rfl rfl (fun X eG el hX => ?_)
  · simp at hv
    rcases hv with rfl | rfl | rfl
    · rfl
    · rfl
    · exact hfm
  · refine x_iloadn hX dJ3_checkIndex_8e157_0 rfl ?_
    refine x_if_lt (tgt := 9) hX dJ3_checkIndex_8e157_1 (by decide) rfl (fun hc => absurd hc h1) (fun _ => ?_)
    refine x_iloadn hX dJ3_checkIndex_8e157_4 rfl ?_
    refine x_iloadn hX dJ3_checkIndex_8e157_5 rfl ?_
    refine x_icmp_lt (tgt := 16) hX dJ3_checkIndex_8e157_6 (by decide) rfl rfl (fun _ => ?_) (fun hc => absurd h2 hc)
    refine x_iloadn hX dJ3_checkIndex_8e157_16 rfl ?_
    exact x_iret hX dJ3_checkIndex_8e157_17 rfl
set_option maxRecDepth 100000 in
theorem c_sci {l : Launch} {G : Gx} (hG : GOK G) (hl : l.stackTraces = false) (a b : Int) (h1 : ¬ w32 a < 0) (h2 : w32 a < w32 b) (M : Mem) : Cn l G m_sci 2 [vi a, vi b] M none M := by
  refine Cn_of2 (ls := [some (vi a), some (vi b)]) hG hl k_sci rfl (Nat.le_of_ble_eq_true rfl) rfl rfl rfl rfl rfl (fun X eG el hX => ?_)
  subst eG; subst el
  refine x_iloadn hX dJ0_checkIndex_df160_0 rfl ?_
  refine x_iloadn hX dJ0_checkIndex_df160_1 rfl ?_
  refine x_form hX dJ0_checkIndex_df160_2 (fun v hv => ?_)
  refine x_callSi (As := [vi a, vi b, v]) (rest := []) hX dJ0_checkIndex_df160_5 (c_pci (gk hX) (gl hX) a b v hv h1 h2 M) k_pci s_pci k_l1059 rfl rfl rfl (Nat.le_of_ble_eq_true rfl) z0 ?_
  refine x_pop hX dJ0_checkIndex_df160_8 rfl ?_
  exact x_vret hX dJ0_checkIndex_df160_9 rfl
set_option maxRecDepth 100000 in
theorem c_lch {l : Launch} {G : Gx} (hG : GOK G) (hl : l.stackTraces = false) {w : Nat} (hw : Nat.blt w 12 = true) (k : Int) (hk : 0 ≤ w32 k ∧ w32 k < s_len w) (M : Mem) : Cn l G m_lch 3 [.ref (gsV G w), vi k] M (some (vi (s_chr w k))) M := by
  refine Cn_of2 (ls := [some (.ref (gsV G w)), some (vi k)]) hG hl k_lch rfl (Nat.le_of_ble_eq_true rfl) rfl rfl rfl rfl rfl (fun X eG el hX => ?_)
  subst eG; subst el
  have hlen : w32 (s_len w) = s_len w := by
    have key : ∀ w, w < 12 → w32 (s_len w) = s_len w := by decide +kernel
    exact key w (Nat.le_of_ble_eq_true hw)
  refine x_iloadn hX dJ1_charAt_3b067_0 rfl ?_
  refine x_qload hX dJ1_charAt_3b067_1 rfl ?_
  refine x_tlen hX hw dJ1_charAt_3b067_2 ?_
  refine x_callSv (As := [vi k, vi (s_len w)]) (rest := []) hX dJ1_charAt_3b067_3 (c_sci (gk hX) (gl hX) k (s_len w) (by omega) (by rw [hlen]; exact hk.2) M) k_sci s_sci k_l9 rfl rfl rfl (Nat.le_of_ble_eq_true rfl) z0 ?_
  refine x_qload hX dJ1_charAt_3b067_6 rfl ?_
  refine x_iloadn hX dJ1_charAt_3b067_7 rfl ?_
  refine x_tb hX hw hk dJ1_charAt_3b067_8 ?_
  refine x_sipush hX dJ1_charAt_3b067_9 (by decide) ?_
  refine x_iand hX dJ1_charAt_3b067_12 ?_
  refine x_i2c hX dJ1_charAt_3b067_13 ?_
  have e0 : ∀ z : Int32, i_c (i_and z.toInt 255) = (z &&& 255).toInt := by
    intro z
    unfold i_c i_and
    rw [Int32.ofInt_toInt, Int32.ofInt_toInt]
    exact congrArg Int32.toInt (sc_c2 z)
  rw [e0]
  refine x_nret (ty := .char) hX dJ1_charAt_3b067_14 ?_
  unfold s_chr
  rw [Int32.ofInt_toInt]
  exact sc_nar _
set_option maxRecDepth 100000 in
theorem c_lat {l : Launch} {G : Gx} (hG : GOK G) (hl : l.stackTraces = false) {w : Nat} (hw : Nat.blt w 12 = true) (M : Mem) : Cn l G m_lat 1 [vsz G w] M (some (vi 1)) M := by
  refine Cn_of2 (ls := [some (vsz G w)]) hG hl k_lat rfl (Nat.le_of_ble_eq_true rfl) rfl rfl rfl rfl rfl (fun X eG el hX => ?_)
  subst eG; subst el
  refine x_compact hX dJ0_isLatin1_aae02_0 ?_
  refine x_if_eq (tgt := 17) hX dJ0_isLatin1_aae02_3 (by decide) rfl (fun hc => absurd hc (by decide)) (fun _ => ?_)
  refine x_sloadn hX dJ0_isLatin1_aae02_6 rfl ?_
  refine x_coder hX hw dJ0_isLatin1_aae02_7 ?_
  refine x_if_ne (tgt := 17) hX dJ0_isLatin1_aae02_10 (by decide) rfl (fun _ => ?_) (fun hc => absurd (show w32 0 = 0 by decide) hc)
  refine x_iconst hX dJ0_isLatin1_aae02_13 ?_
  refine x_goto (tgt := 18) hX dJ0_isLatin1_aae02_14 (by decide) ?_
  exact x_zret hX dJ0_isLatin1_aae02_18 (Or.inr (by decide)) rfl
set_option maxRecDepth 100000 in
theorem c_coder {l : Launch} {G : Gx} (hG : GOK G) (hl : l.stackTraces = false) {w : Nat} (hw : Nat.blt w 12 = true) (M : Mem) : Cn l G m_coder 1 [vsz G w] M (some (vi 0)) M := by
  refine Cn_of2 (ls := [some (vsz G w)]) hG hl k_coder rfl (Nat.le_of_ble_eq_true rfl) rfl rfl rfl rfl rfl (fun X eG el hX => ?_)
  subst eG; subst el
  refine x_compact hX dJ0_coder_7d493_0 ?_
  refine x_if_eq (tgt := 13) hX dJ0_coder_7d493_3 (by decide) rfl (fun hc => absurd hc (by decide)) (fun _ => ?_)
  refine x_sloadn hX dJ0_coder_7d493_6 rfl ?_
  refine x_coder hX hw dJ0_coder_7d493_7 ?_
  refine x_goto (tgt := 14) hX dJ0_coder_7d493_10 (by decide) ?_
  exact x_nret (ty := .byte) hX dJ0_coder_7d493_14 rfl
set_option maxRecDepth 100000 in
theorem c_strlen {l : Launch} {G : Gx} (hG : GOK G) (hl : l.stackTraces = false) {w : Nat} (h : Nat.blt w 12 = true) (M : Mem) : Cn l G m_strlen 2 [vsz G w] M (some (vi (s_len w))) M := by
  refine Cn_of2 (ls := [some (vsz G w)]) hG hl k_strlen rfl (Nat.le_of_ble_eq_true rfl) rfl rfl rfl rfl rfl (fun X eG el hX => ?_)
  subst eG; subst el
  refine x_sloadn hX dJ0_length_8abf5_0 rfl ?_
  refine x_value hX h dJ0_length_8abf5_1 ?_
  refine x_tlen hX h dJ0_length_8abf5_4 ?_
  refine x_sloadn hX dJ0_length_8abf5_5 rfl ?_
  refine x_callTi (As := []) (rest := [vi (s_len w)]) hX dJ0_length_8abf5_6 (c_coder (gk hX) (gl hX) h M) k_coder v_coder k_l335 h rfl rfl rfl rfl (Nat.le_of_ble_eq_true rfl) z0 ?_
  refine x_ishr hX dJ0_length_8abf5_9 ?_
  have e0 : i_shr (s_len w) 0 = s_len w := by
    have key : ∀ w, w < 12 → i_shr (s_len w) 0 = s_len w := by decide +kernel
    exact key w (Nat.le_of_ble_eq_true h)
  rw [e0]
  exact x_iret hX dJ0_length_8abf5_10 rfl
set_option maxRecDepth 100000 in
theorem c_strchr {l : Launch} {G : Gx} (hG : GOK G) (hl : l.stackTraces = false) {w : Nat} (h : Nat.blt w 12 = true) (k : Int) (hk : 0 ≤ w32 k ∧ w32 k < s_len w) (M : Mem) : Cn l G m_strchr 4 [vsz G w, vi k] M (some (vi (s_chr w k))) M := by
  refine Cn_of2 (ls := [some (vsz G w), some (vi k)]) hG hl k_strchr rfl (Nat.le_of_ble_eq_true rfl) rfl rfl rfl rfl rfl (fun X eG el hX => ?_)
  subst eG; subst el
  refine x_sloadn hX dJ0_charAt_5068e_0 rfl ?_
  refine x_callTi (As := []) (rest := []) hX dJ0_charAt_5068e_1 (c_lat (gk hX) (gl hX) h M) k_lat v_lat k_l492 h rfl rfl rfl rfl (Nat.le_of_ble_eq_true rfl) z0 ?_
  refine x_if_eq (tgt := 16) hX dJ0_charAt_5068e_4 (by decide) rfl (fun hc => absurd hc (by decide)) (fun _ => ?_)
  refine x_sloadn hX dJ0_charAt_5068e_7 rfl ?_
  refine x_value hX h dJ0_charAt_5068e_8 ?_
  refine x_iloadn hX dJ0_charAt_5068e_11 rfl ?_
  refine x_callSi (As := [.ref (gsV (xG X) w), vi k]) (rest := []) hX dJ0_charAt_5068e_12 (c_lch (gk hX) (gl hX) h k hk M) k_lch s_lch k_l495 rfl rfl rfl (Nat.le_of_ble_eq_true rfl) z0 ?_
  refine x_nret (ty := .char) hX dJ0_charAt_5068e_15 ?_
  unfold s_chr
  rw [Int32.ofInt_toInt]
  exact sc_nar _
