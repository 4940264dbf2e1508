-- ===== further rows =====
theorem gk {X : Cxt} {own : String} {cc : ByteArray} {nL lv : Nat} {ret : Option FieldType} (hX : Gd X own cc nL ret lv) : GOK (xG X) := hX.2.2.2.2.2.2.2.2.1
theorem gl {X : Cxt} {own : String} {cc : ByteArray} {nL lv : Nat} {ret : Option FieldType} (hX : Gd X own cc nL ret lv) : (xl X).stackTraces = false := hX.2.2.2.2.2.2.2.2.2.2.2.2.2.1
theorem lv_of {lz lw : Nat} (h : 10 ≤ lw) (hz : Nat.ble (lz + 1) 10 = true) : Nat.ble (lz + 1) lw = true := Nat.ble_eq_true_of_le (Nat.le_trans (Nat.le_of_ble_eq_true hz) h)
def CPW (own : String) (idx : Nat) : Prop := Cond.methodLink own idx arraycopyName ∈ WS ∧ Cond.native arraycopyName ∈ WS ∧ Cond.static arraycopyName ∈ WS ∧ Cond.initialized "java/lang/System" ∈ WS
theorem gs_of {α : Type} {w : Nat} {k : Int} {K : Option α} {r : α} (h : gs w k K = some r) : (0 ≤ w32 k ∧ w32 k < s_len w) ∧ K = some r := by
  unfold gs at h
  by_cases q : 0 ≤ w32 k ∧ w32 k < s_len w
  · rw [if_pos q] at h; exact ⟨q, h⟩
  · rw [if_neg q] at h; cases h
section VMORE
variable {X : Cxt} {k n : Nat} {Q : State → Prop} {pc : Nat} {ls ls' : List (Option Value)} {st : List Value} {M : Mem} {own : String} {cc : ByteArray} {nL lv : Nat} {ret : Option FieldType}
theorem x_meq {M' : Mem} (h : M' = M) (kk : V X k n Q pc ls st M') : V X k n Q pc ls st M := h ▸ kk
theorem x_qeq {Q' : State → Prop} (h : Q = Q') (kk : V X k n Q' pc ls st M) : V X k n Q pc ls st M := h ▸ kk
theorem x_getRj (hX : Gd X own cc nL ret lv) {i ci f idx off j : Nat} (d : decode cc pc = .ok (.getfield idx, 3)) (hf : FL own idx ci f) (ho : (fspT.getD ci [])[f]? = some (some off)) (hi : at_ (xG X) i (10 + ci) 0) (hj : i + off = j) (kk : V X k n Q (pc + 3) ls (vr (xG X) j :: st) M) : V X k n Q pc ls (vr (xG X) i :: st) M := by
  subst hj
  exact x_get hX d hf ho hi kk
theorem x_sload (hX : Gd X own cc nL ret lv) {i a : Nat} (d : decode cc pc = .ok (.aload i, 2)) (hi : ls[i]? = some (some (vsz (xG X) a))) (kk : V X k n Q (pc + 2) ls (vsz (xG X) a :: st) M) : V X k n Q pc ls st M :=
  fun H locs la hl hP hD hS => lv_aload hX.1 hX.2.1 d (hl.at hi) (kk H locs la hl hP hD hS)
theorem x_sloadn (hX : Gd X own cc nL ret lv) {j : Fin 4} {a : Nat} (d : decode cc pc = .ok (.aload_n j, 1)) (hi : ls[(j : Nat)]? = some (some (vsz (xG X) a))) (kk : V X k n Q (pc + 1) ls (vsz (xG X) a :: st) M) : V X k n Q pc ls st M :=
  fun H locs la hl hP hD hS => lv_aload_n hX.1 hX.2.1 d rfl (hl.at hi) (kk H locs la hl hP hD hS)
theorem x_ldcS (hX : Gd X own cc nL ret lv) {k' idx : Nat} {tx : String} (d : decode cc pc = .ok (.ldc idx, 2)) (hk : strT[k']? = some (own, idx, tx)) (kk : V X k n Q (pc + 2) ls (vsz (xG X) k' :: st) M) : V X k n Q pc ls st M :=
  fun H locs la hl hP hD hS => va_ldcS hX.1 hX.2.1 hX.2.2.2.1 (hX.2.2.2.2.2.2.2.2.2.2.2.2.1.2.2.1 k' _ hk) d (kk H locs la hl hP hD hS)
theorem x_callVi (hX : Gd X own cc nL ret lv) {m : Mth} {lz idx np i t : Nat} {As rest : List Value} {r : Int} {M1 : Mem} (d : decode cc pc = .ok (.invokevirtual idx, 3)) (hc : Cn (xl X) (xG X) m lz (vr (xG X) i :: As) M (some (vi r)) M1) (hm : MK m np) (hv : MV m) (hl : Cond.methodLink own idx (mY m) ∈ WS) (hi : at_ (xG X) i (10 + t) 0) (ht : (vwCl[t]?).map (fun q => q.1) = some (mY m).cls) (hn : As.length = np) (hlv : Nat.ble (lz + 1) lv = true) (hst : st = As.reverse ++ vr (xG X) i :: rest) (hw : (rest.map fun v => v.category).sum ≤ 8) (hf : k ≤ (xR X).cells ∧ n ≤ (xR X).slots) (kk : V X k n Q (pc + 3) ls (vi r :: rest) M1) : V X k n Q pc ls st M := x_callV hX d hc hm hv hl hi ht hn hlv hst hw hf kk
theorem x_callVv (hX : Gd X own cc nL ret lv) {m : Mth} {lz idx np i t : Nat} {As rest : List Value} {M1 : Mem} (d : decode cc pc = .ok (.invokevirtual idx, 3)) (hc : Cn (xl X) (xG X) m lz (vr (xG X) i :: As) M none M1) (hm : MK m np) (hv : MV m) (hl : Cond.methodLink own idx (mY m) ∈ WS) (hi : at_ (xG X) i (10 + t) 0) (ht : (vwCl[t]?).map (fun q => q.1) = some (mY m).cls) (hn : As.length = np) (hlv : Nat.ble (lz + 1) lv = true) (hst : st = As.reverse ++ vr (xG X) i :: rest) (hw : (rest.map fun v => v.category).sum ≤ 8) (hf : k ≤ (xR X).cells ∧ n ≤ (xR X).slots) (kk : V X k n Q (pc + 3) ls rest M1) : V X k n Q pc ls st M := x_callV hX d hc hm hv hl hi ht hn hlv hst hw hf kk
theorem x_callSi (hX : Gd X own cc nL ret lv) {m : Mth} {lz idx np : Nat} {As rest : List Value} {r : Int} {M1 : Mem} (d : decode cc pc = .ok (.invokestatic idx, 3)) (hc : Cn (xl X) (xG X) m lz As M (some (vi r)) M1) (hm : MK m np) (hv : MS m) (hl : Cond.methodLink own idx (mY m) ∈ WS) (hn : As.length = np) (hlv : Nat.ble (lz + 1) lv = true) (hst : st = As.reverse ++ rest) (hw : (rest.map fun v => v.category).sum ≤ 8) (hf : k ≤ (xR X).cells ∧ n ≤ (xR X).slots) (kk : V X k n Q (pc + 3) ls (vi r :: rest) M1) : V X k n Q pc ls st M := x_callS hX d hc hm hv hl hn hlv hst hw hf kk
theorem x_callSv (hX : Gd X own cc nL ret lv) {m : Mth} {lz idx np : Nat} {As rest : List Value} {M1 : Mem} (d : decode cc pc = .ok (.invokestatic idx, 3)) (hc : Cn (xl X) (xG X) m lz As M none M1) (hm : MK m np) (hv : MS m) (hl : Cond.methodLink own idx (mY m) ∈ WS) (hn : As.length = np) (hlv : Nat.ble (lz + 1) lv = true) (hst : st = As.reverse ++ rest) (hw : (rest.map fun v => v.category).sum ≤ 8) (hf : k ≤ (xR X).cells ∧ n ≤ (xR X).slots) (kk : V X k n Q (pc + 3) ls rest M1) : V X k n Q pc ls st M := x_callS hX d hc hm hv hl hn hlv hst hw hf kk
/-- a call on a String constant -/
theorem x_callTi (hX : Gd X own cc nL ret lv) {m : Mth} {lz idx np w : Nat} {As rest : List Value} {r : Int} {M1 : Mem} (d : decode cc pc = .ok (.invokevirtual idx, 3)) (hc : Cn (xl X) (xG X) m lz (vsz (xG X) w :: As) M (some (vi r)) M1) (hm : MK m np) (hv : MV m) (hl : Cond.methodLink own idx (mY m) ∈ WS) (hi : Nat.blt w 12 = true) (ht : (mY m).cls = "java/lang/String") (hn : As.length = np) (hlv : Nat.ble (lz + 1) lv = true) (hst : st = As.reverse ++ vsz (xG X) w :: rest) (hw : (rest.map fun v => v.category).sum ≤ 8) (hf : k ≤ (xR X).cells ∧ n ≤ (xR X).slots) (kk : V X k n Q (pc + 3) ls (vi r :: rest) M1) : V X k n Q pc ls st M := by
  intro H locs la hl' hP hD hS
  refine x_go hX.2.2.2.2.2.2.2.2.2.2.2.2.2.2.1 (a := (vsz (xG X) w :: As).toArray) (rest := rest) (va_runV (As := As) (rest := rest) (C := (mY m).cls) (b := gsK (xG X) w) (n := np) ⟨hX.1, hX.2.1, hX.2.2.1, hX.2.2.2.1, hX.2.2.2.2.1⟩ hc ⟨x_callB hX hm hl hlv, hX.2.2.2.2.1 _ hv.1, hX.2.2.2.2.1 _ hv.2⟩ ⟨Wd.blind, ?_, fun U hU hW => ⟨rfl, x_wd hX hP hD hS hU hW⟩⟩ rfl hn (hl'.1.trans hX.2.2.1) hst (lv_room hw) d hf) hS (fun H1 locs1 hP1 hD1 hS1 => kk H1 locs1 la hl' hP1 hD1 hS1)
  rw [ht]
  exact vk_recv hX.2.2.2.2.2.2.2.2.2.2.2.2.1.2.2.2.1 (Nat.le_of_ble_eq_true hi) (s0X hX hS)
theorem x_copy (hX : Gd X own cc nL ret lv) {a b N0 N1 idx c : Nat} (d : decode cc pc = .ok (.invokestatic idx, 3)) (hm : CPW own idx) (ha : at_ (xG X) a 1 N0) (hb : at_ (xG X) b 1 N1) (hc : ¬ Int32.ofInt c < 0 ∧ (Int32.ofInt c).toNatClampNeg = c) (h0 : c ≤ N0) (h1 : c ≤ N1) (hw : (st.map fun v => v.category).sum ≤ 8) (kk : V X k n Q (pc + 3) ls st (cpy2 M a b c)) : V X k n Q pc ls (vi (c : Int) :: vi 0 :: vr (xG X) b :: vi 0 :: vr (xG X) a :: st) M := by
  intro H locs la hl' hP hD hS
  have h2 := hX.2.2.2.2.2.2.2.2.2.2.1
  have h3 := hX.2.2.2.2.2.2.2.2.2.2.2.1
  obtain ⟨q0, hq0⟩ := at_k ha
  obtain ⟨q1, hq1⟩ := at_k hb
  have z0' : ¬ Int32.ofInt 0 < 0 := by decide
  have z1 : (Int32.ofInt 0).toNatClampNeg = 0 := by decide
  have hw2 : (wl (xG X) M).set q1 (gad (xG X) b, .inl (gcy (xG X) 0, N1, .inl (va_cpy (fun j => Int32.ofInt (M a j)) (fun j => Int32.ofInt (M b j)) 0 0 c))) = wl (xG X) (cpy2 M a b c) := by
    refine wl_set (gk hX).1 hq1 ?_ (fun j hj => by unfold cpy2; rw [if_neg hj])
    rw [ent1 hb.2]
    congr 3
    congr 1
    funext j
    unfold cpy2 va_cpy
    rw [if_pos rfl]
    by_cases e : j < c
    · rw [if_pos e, if_pos ⟨Nat.zero_le _, by omega⟩]; simp
    · rw [if_neg e, if_neg (fun z => e (by omega))]
  refine va_copyi (D := gDz (xG X)) (cl := vwCl) (f := fun j => Int32.ofInt (M a j)) (g := fun j => Int32.ofInt (M b j)) (ty := .int) hX.1 hX.2.1 hl'.1.symm hX.2.2.2.1 (hX.2.2.2.2.1 _ hm.1) (hX.2.2.2.2.1 _ hm.2.1) (hX.2.2.2.2.1 _ hm.2.2.1) (hX.2.2.2.2.1 _ hm.2.2.2) hX.2.2.2.2.2.2.2.1 hP hD hS q0 q1 0 0 (by rw [wl_at M hq0, ent1 ha.2]) (by rw [wl_at M hq1, ent1 hb.2]) rfl rfl rfl z0' z0' hc.1 (by rw [z1, hc.2, Nat.zero_add]; exact h0) (by rw [z1, hc.2, Nat.zero_add]; exact h1) (fun i hi => rfl) (Nat.le_trans (by omega) h2) (Nat.le_trans (Nat.add_le_add_right hw _) (Nat.le_trans (by decide) (Nat.le_trans (Nat.le_add_left 300 (64 * lv)) h3))) d (fun H1 locs1 hP1 hD1 hS1 => ?_)
  rw [z1, hc.2, hw2] at hP1 hD1
  exact kk H1 locs1 la hl' hP1 hD1 hS1
end VMORE
theorem Cn_of2 {l : Launch} {G : Gx} {m : Mth} {lv np : Nat} {av : List Value} {M M1 : Mem} {rv : Option Value} (hG : GOK G) (hl : l.stackTraces = false) (hm : MK m np) (hc : av.all (fun v => v.category == 1) = true) (hn : av.length ≤ mN m) {own : String} (ho : own = (mY m).cls) {cc : ByteArray} (hcc : mC m = cc) {nL : Nat} (hnL : mN m = nL) {ret : Option FieldType} (hret : mR m = ret) {ls : List (Option Value)} (hls : av.map some ++ List.replicate (nL - av.length) none = ls)
    (body : ∀ X : Cxt, xG X = G → xl X = l → Gd X own cc nL ret lv → V X 0 0 (Qn X rv M1) 0 ls [] M) : Cn l G m lv av M rv M1 := Cn_of hG hl hm (fun v hv => by have := List.all_eq_true.mp hc v hv; simpa using this) hn ho hcc hnL hret hls body
