-- ===== the law from its entry =====
theorem w_176 : Cond.classLink RL 8 RX11 ∈ WS := ws_of 176 (by decide +kernel) (by decide +kernel)
theorem w_177 : Cond.instantiable RX11 8 ∈ WS := ws_of 177 (by decide +kernel) (by decide +kernel)
theorem w_179 : Cond.instanceMethod yX11_init ∈ WS := ws_of 179 (by decide +kernel) (by decide +kernel)
theorem w_178 : Cond.methodLink RL 150 yX11_init ∈ WS := ws_of 178 (by decide +kernel) (by decide +kernel)
theorem df_X11 : ∀ j, j < 8 → defaultValue (tyX11 j) = vp_V (dfl 10) j := fun j hj => by
  match j, hj with
  | 0, _ => rfl
  | 1, _ => rfl
  | 2, _ => rfl
  | 3, _ => rfl
  | 4, _ => rfl
  | 5, _ => rfl
  | 6, _ => rfl
  | 7, _ => rfl
  | j + 8, h => exact absurd h (by omega)
theorem nw_L_150 : NWW RL 8 150 mX11_init 10 8 := ⟨RX11, TX11, tyX11, rfl, inws_10, tyX11_ok, df_X11, w_176, w_177, w_150, kX11_init, w_179, rfl, rfl, Or.inr w_178⟩
theorem w_1622 : Cond.classLink RL 151 RX12 ∈ WS := ws_of 1622 (by decide +kernel) (by decide +kernel)
theorem w_1623 : Cond.instantiable RX12 31 ∈ WS := ws_of 1623 (by decide +kernel) (by decide +kernel)
theorem w_1625 : Cond.instanceMethod yX12_init ∈ WS := ws_of 1625 (by decide +kernel) (by decide +kernel)
theorem w_1624 : Cond.methodLink RL 153 yX12_init ∈ WS := ws_of 1624 (by decide +kernel) (by decide +kernel)
theorem df_X12 : ∀ j, j < 31 → defaultValue (tyX12 j) = vp_V (dfl 11) j := fun j hj => by
  match j, hj with
  | 0, _ => rfl
  | 1, _ => rfl
  | 2, _ => rfl
  | 3, _ => rfl
  | 4, _ => rfl
  | 5, _ => rfl
  | 6, _ => rfl
  | 7, _ => rfl
  | 8, _ => rfl
  | 9, _ => rfl
  | 10, _ => rfl
  | 11, _ => rfl
  | 12, _ => rfl
  | 13, _ => rfl
  | 14, _ => rfl
  | 15, _ => rfl
  | 16, _ => rfl
  | 17, _ => rfl
  | 18, _ => rfl
  | 19, _ => rfl
  | 20, _ => rfl
  | 21, _ => rfl
  | 22, _ => rfl
  | 23, _ => rfl
  | 24, _ => rfl
  | 25, _ => rfl
  | 26, _ => rfl
  | 27, _ => rfl
  | 28, _ => rfl
  | 29, _ => rfl
  | 30, _ => rfl
  | j + 31, h => exact absurd h (by omega)
theorem nw_L_153 : NWW RL 151 153 mX12_init 11 31 := ⟨RX12, TX12, tyX12, rfl, inws_11, tyX12_ok, df_X12, w_1622, w_1623, w_161, kX12_init, w_1625, rfl, rfl, Or.inr w_1624⟩
theorem w_2361 : Cond.arrayClass .long ∈ WS := ws_of 2361 (by decide +kernel) (by decide +kernel)
theorem x_arrLV {X : Cxt} {k n : Nat} {Q : State → Prop} {pc : Nat} {ls : List (Option Value)} {st : List Value} {M : Mem} {own : String} {cc : ByteArray} {nL lv : Nat} {ret : Option FieldType} (hX : Gd X own cc nL ret lv) {j N : Nat} {c : Int} (d : decode cc pc = .ok (.newarray .long, 2)) (hw : Cond.arrayClass .long ∈ WS) (hk : kd j = (4, N)) (hc : ¬ Int32.ofInt c < 0 ∧ (Int32.ofInt c).toNatClampNeg = N) (hb : N ≤ 10000) (hj : j ∉ gL (xG X)) (hcl : CL (xG X) M) (hB : ∀ q, (xs X).heap.size ≤ q → xA X q) (hkc : k + 1 ≤ (xR X).cells) (hnc : n + N ≤ (xR X).slots)
    (kk : ∀ G1 : Gx, G1.2.2 = (xG X).2.2 → gL G1 = gL (xG X) ++ [j] → (∀ r ∈ gL (xG X), gad G1 r = gad (xG X) r) → Gd (xA X, G1, X.2.2) own cc nL ret lv → CL G1 (mj M (fun _ _ => 0) [j]) → V (xA X, G1, X.2.2) (k + 1) (n + N) Q (pc + 2) ls (vr G1 j :: st) (mj M (fun _ _ => 0) [j])) : V X k n Q pc ls (vi c :: st) M := by
  intro H locs la hl hP hD hS
  refine va_newa (D := gDz (xG X)) (cl := vwCl) (atype := .long) (ty := .long) (a0 := (N, .inr (.inl (fun _ => Int64.ofInt 0)))) hX.1 hX.2.1 (hX.2.2.2.2.1 _ hw) rfl hX.2.2.2.2.2.2.2.1 hP hD hS hB (fun cA => rfl) hc.1 hc.2 (show N * 8 ≤ 536870912 by omega) hkc hnc d (fun q cA H1 hK1 hP1 hD1 hS1 => ?_)
  have hcA : cA = gcy (xG X) 3 := cy_eq hX (t0 := 3) rfl hK1
  subst hcA
  let Gs : Gx := (fun _ => q, [j], (xG X).2.2)
  have hkj : 10 ≤ (kd j).1 ∨ (kd j).1 ≤ 6 ∧ 1 ≤ (kd j).1 := by rw [hk]; exact Or.inr ⟨Nat.le_of_ble_eq_true rfl, Nat.le_of_ble_eq_true rfl⟩
  have hcs : CL Gs (fun _ _ => 0) := by
    intro r hr
    have z : r ∈ [j] := hr
    rw [List.mem_singleton] at z
    subst z
    refine ⟨hkj, fun r' hr' => ?_⟩
    unfold refd at hr'
    rw [hk] at hr'
    rcases hr' with ⟨h, -⟩ | ⟨h, -⟩ | ⟨h, -⟩ <;> simp at h
  have hdis : ∀ r ∈ gL (xG X), r ∉ [j] := fun r hr z => by rw [List.mem_singleton] at z; exact hj (z ▸ hr)
  have e1 : wl (gj (xG X) Gs) (mj M (fun _ _ => 0) [j]) = wl (xG X) M ++ [(q, .inl (gcy (xG X) 3, N, .inr (.inl (fun _ => Int64.ofInt 0))))] := by
    have := wl_gj (G := xG X) (Gs := Gs) (M := M) (Ms := fun _ _ => 0) rfl hdis hcl hcs
    rw [show gL Gs = [j] from rfl] at this
    rw [this]
    congr 1
    show [(q, ent Gs (fun _ _ => 0) j)] = _
    rw [ent4 hk]
    rfl
  have hL1 : gL (gj (xG X) Gs) = gL (xG X) ++ [j] := rfl
  have hcl1 : CL (gj (xG X) Gs) (mj M (fun _ _ => 0) [j]) := CL_gj rfl hdis hcl hcs hL1
  have e3 : gad (gj (xG X) Gs) j = q := by
    show (if j ∈ [j] then _ else _) = _
    rw [if_pos (by simp)]
    rfl
  rw [← e1] at hP1 hD1
  have hsub : ∀ q, gA (gj (xG X) Gs) q → xA X q := by
    rintro q ⟨r, hr, rfl⟩
    obtain ⟨k, hk⟩ := List.getElem?_of_mem hr
    exact hD1.2 k _ (wl_at _ hk)
  have hgok : GOK (gj (xG X) Gs) := GOK_of (by rw [hL1]; exact List.nodup_append.mpr ⟨hX.2.2.2.2.2.2.2.2.1.1, (by simp), fun a ha b hb e => hdis a ha (e ▸ hb)⟩) hcl1 (fun r hr => hX.2.2.2.2.2.2.2.2.2.2.2.2.2.2.2 _ (hsub _ ⟨r, hr, rfl⟩))
  have := kk (gj (xG X) Gs) rfl hL1 (fun r hr => by show (if r ∈ [j] then _ else _) = _; rw [if_neg (hdis r hr)]) (Gd_of hX rfl hgok hsub) hcl1 H1 locs la hl hP1 hD1 hS1
  unfold vr at this
  rw [e3] at this
  exact this
set_option maxRecDepth 100000 in
set_option maxHeartbeats 4000000 in
theorem whole_start0 {Inv : Mem → Prop} (hSt : Owed Inv) (h00 : Owe0 Inv) {p : Program} {e : Env} {s : State} {m : MethodId} {below : List Frame} {meth : Method} {c : Code} (l : Launch) (hflags : l.flags = flags0) {b L : Nat} {xs : Nat → Int32} (hL : L ≤ 2560) (C0 : lw_At p s m meth c b L xs) : W p l e room_1 s m #[Value.ref b] below meth c s.heap [] 0 0 (lw_Z below #[Value.ref b] s) (entryFrame m ([Value.ref b] : List Value).toArray 7) := by
  obtain ⟨hx, hb, hr, hml, hown, hts, hXs, hbl, hlocks, hgv⟩ := C0
  obtain ⟨T0, hT0, hTK⟩ := st_all hts hgv
  obtain ⟨Mr1, Mr19, Mr139, er1, er19, er139, hI0⟩ := h00
  have hl : l.stackTraces = false := by
    unfold Launch.stackTraces; rw [hflags]; decide +kernel
  let A : Nat → Prop := fun q => s.heap.size ≤ q
  let G0 : Gx := (fun _ => 0, [], T0)
  have hX : Gd (A, G0, p, l, e, room_1, s, m, #[Value.ref b], below, meth, c) RL cL_law 7 (some .boolean) 40 := ⟨hx, hb, hml, hown, fun w hw => hts w (List.mem_filter.mp hw).1, hlocks, hr, (hTK _ _).1, ⟨List.nodup_nil, fun r hr => (List.not_mem_nil hr).elim, fun r hr => (List.not_mem_nil hr).elim, fun r hr => (List.not_mem_nil hr).elim⟩, by show T0.1 ≤ s.heap.size; rw [hT0]; exact Nat.le_refl _, (Nat.le_of_ble_eq_true rfl), (Nat.le_of_ble_eq_true rfl), (hTK _ _).2, hl, fun q hq => (by obtain ⟨r, hr, -⟩ := hq; exact (List.not_mem_nil hr).elim), fun q hq => by show T0.1 ≤ q; rw [hT0]; exact hq⟩
  have hB : ∀ q, s.heap.size ≤ q → A q := fun _ h => h
  have hV : V (A, G0, p, l, e, room_1, s, m, #[Value.ref b], below, meth, c) 0 0 (lw_Z below #[Value.ref b] s) 0 [some (.ref b), none, none, none, none, none, none] [] (fun _ _ => 0) := by
    refine x_newV (Ls := idsP) (Ms := mP Mr1 Mr19) hX dL_law_0 dL_law_3 dL_law_4 nw_L_150 (ci_X11_0 (gl hX) er1 er19) rfl (Nat.le_of_ble_eq_true rfl) hB (Nat.le_of_ble_eq_true rfl) (Nat.le_of_ble_eq_true rfl) (fun r hr => (List.not_mem_nil hr).elim) (by decide) (fun i hi => (List.not_mem_nil hi).elim) (fun Gs e => CL_of e (by decide +kernel) (fun i hi h6 j => (by have e6 := kd6 h6; subst e6; rfl))) (by decide +kernel) (fun G1 t1 l1 a1 hY hcl1 => ?_)
    have L1 : gL G1 = idsP := by rw [l1]; rfl
    refine x_astoren (X := (A, G1, p, l, e, room_1, s, m, #[Value.ref b], below, meth, c)) (a := 0) (ls' := [some (.ref b), some (vr G1 0), none, none, none, none, none]) hY dL_law_7 rfl rfl ?_
    refine x_newV (X := (A, G1, p, l, e, room_1, s, m, #[Value.ref b], below, meth, c)) (Ls := idsM) (Ms := Mr139) hY dL_law_8 dL_law_11 dL_law_12 nw_L_153 (ci_X12_139 (gl hY) er139) rfl (Nat.le_of_ble_eq_true rfl) hB (Nat.le_of_ble_eq_true rfl) (Nat.le_of_ble_eq_true rfl) (dis_of L1 (by decide +kernel)) (by decide) hcl1 (fun Gs e => CL_of e (by decide +kernel) (no6 (by decide +kernel))) (by decide +kernel) (fun G2 t2 l2 a2 hY2 hcl2 => ?_)
    have L2 : gL G2 = idsP ++ idsM := by rw [l2]; show gL G1 ++ idsM = _; rw [L1]
    have g0 : vr G1 0 = vr G2 0 := by unfold vr; rw [a2 0 (by show 0 ∈ gL G1; rw [L1]; decide +kernel)]
    rw [g0]
    refine x_astoren (X := (A, G2, p, l, e, room_1, s, m, #[Value.ref b], below, meth, c)) (a := 139) (ls' := [some (.ref b), some (vr G2 0), some (vr G2 139), none, none, none, none]) hY2 dL_law_15 rfl rfl ?_
    refine x_iconst (X := (A, G2, p, l, e, room_1, s, m, #[Value.ref b], below, meth, c)) hY2 dL_law_16 ?_
    refine x_arrLV (X := (A, G2, p, l, e, room_1, s, m, #[Value.ref b], below, meth, c)) (j := 157) (N := 1) hY2 dL_law_17 w_2361 (by decide +kernel) (by decide +kernel) (Nat.le_of_ble_eq_true rfl) (by show 157 ∉ gL G2; rw [L2]; decide +kernel) hcl2 hB (Nat.le_of_ble_eq_true rfl) (Nat.le_of_ble_eq_true rfl) (fun G3 t3 l3 a3 hY3 hcl3 => ?_)
    have L3 : gL G3 = idsP ++ idsM ++ [157] := by rw [l3]; show gL G2 ++ [157] = _; rw [L2]
    have g1 : vr G2 0 = vr G3 0 := by unfold vr; rw [a3 0 (by show 0 ∈ gL G2; rw [L2]; decide +kernel)]
    have g2 : vr G2 139 = vr G3 139 := by unfold vr; rw [a3 139 (by show 139 ∈ gL G2; rw [L2]; decide +kernel)]
    rw [g1, g2]
    refine x_astoren (X := (A, G3, p, l, e, room_1, s, m, #[Value.ref b], below, meth, c)) (a := 157) (ls' := [some (.ref b), some (vr G3 0), some (vr G3 139), some (vr G3 157), none, none, none]) hY3 dL_law_19 rfl rfl ?_
    refine x_iconst (X := (A, G3, p, l, e, room_1, s, m, #[Value.ref b], below, meth, c)) hY3 dL_law_20 ?_
    refine x_istore (X := (A, G3, p, l, e, room_1, s, m, #[Value.ref b], below, meth, c)) (ls' := [some (.ref b), some (vr G3 0), some (vr G3 139), some (vr G3 157), some (vi ((0 : Nat) : Int)), none, none]) hY3 dL_law_21 rfl rfl rfl ?_
    have hLI : LI G3 (m0 Mr1 Mr19 Mr139) := by
      refine ⟨fun i hi => ?_, ⟨by rw [L3]; decide +kernel, by decide +kernel⟩, hcl3, fun j hj _ r hr => ?_⟩
      · rw [L3]
        exact (by decide +kernel : ∀ i, i < 157 → i ∈ idsP ++ idsM ++ [157]) i hi
      · rw [L3] at hr
        rcases (show j = 0 ∨ j = 1 by omega) with rfl | rfl
        · exact (by decide +kernel : ∀ r ∈ idsP ++ idsM ++ [157], r ∉ blkL 0) r hr
        · exact (by decide +kernel : ∀ r ∈ idsP ++ idsM ++ [157], r ∉ blkL 1) r hr
    have hxx : SX (A, G3, p, l, e, room_1, s, m, #[Value.ref b], below, meth, c) b L (fun j => (xs j).toInt) := by
      refine ⟨?_, hbl, ?_⟩
      · have e9 : (fun j => Int32.ofInt (xs j).toInt) = xs := by funext j; rw [Int32.ofInt_toInt]
        show va_X b L (fun j => Int32.ofInt (xs j).toInt) s s.heap
        rw [e9]
        exact hXs
      · intro z
        have z1 : G3.2.2.1 ≤ b := z
        rw [t3] at z1
        have z2 : G2.2.2.1 ≤ b := z1
        rw [t2] at z2
        have z3 : G1.2.2.1 ≤ b := z2
        rw [t1] at z3
        have z4 : T0.1 ≤ b := z3
        rw [hT0] at z4
        omega
    exact law_loop (A := A) (T := (p, l, e, room_1, s, m, #[Value.ref b], below, meth, c)) hSt hL (fun j => (by
      have h1 := Int32.le_toInt (xs j)
      have h2 := Int32.toInt_lt (xs j)
      unfold I32
      omega)) (fun q => Iff.rfl) rfl rfl 512 G3 0 158 5011 (m0 Mr1 Mr19 Mr139) hY3 hLI hxx hI0 (Nat.zero_le _) (by omega) (Nat.le_of_ble_eq_true rfl) (Nat.le_of_ble_eq_true rfl)
  rw [lg_entry_eq]
  refine hV s.heap [] _ ?_ (fun k q hk => by simp [wl, gL, G0] at hk) ⟨fun i j p q h => by simp [wl, gL, G0] at h, fun k q h => by simp [wl, gL, G0] at h⟩ va_S.rf
  show LV _ c.maxLocals _
  rw [hml]
  exact LV.entry [Value.ref b] 7 (fun v hv => by rw [List.mem_singleton] at hv; subst hv; rfl) (Nat.le_of_ble_eq_true rfl)
