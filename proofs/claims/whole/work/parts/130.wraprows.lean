-- ===== methods with handlers; the array of halls =====
def wsH (m : Mth) (hh : List (Nat × Nat × Nat × Nat)) : List Cond := Cond.codeWith (mY m) (mC m) (mN m) (mR m) hh :: WS
def Cw (l : Launch) (G : Gx) (m : Mth) (hh : List (Nat × Nat × Nat × Nat)) (lv mc ms : Nat) (av : List Value) (M : Mem) (rv : Option Value) (M1 : Mem) : Prop :=
  vx_Met l (mY m) (wsH m hh) (rmk lv mc ms) (va_Pc av (Wd G M)) (Qxc (.inr rv) G (gA G) M1) (Xxc (.inr rv) G (gA G) M1) mc ms (gA G)
def MKh (m : Mth) (hh : List (Nat × Nat × Nat × Nat)) (np : Nat) : Prop := Cond.codeWith (mY m) (mC m) (mN m) (mR m) hh ∈ WS ∧ Cond.initialized (mY m).cls ∈ WS ∧ ((mY m).cls ≠ "java/lang/invoke/MethodHandle" ∧ (mY m).cls ≠ "java/lang/invoke/VarHandle" ∧ (parseMethodDescriptor (mY m).desc).map (fun d => d.parameters.length) = some np) ∧ mN m ≤ 40 ∧ plainName (mY m).cls = true ∧ Cond.static (mY m) ∈ WS
def NH (X : Cxt) (hh : List (Nat × Nat × Nat × Nat)) (mc ms : Nat) : Prop := (xc X).exceptionTable.toList = tableOf hh ∧ (xR X).cells = mc ∧ (xR X).slots = ms
theorem exn_mem (x : Nat) : exn x ∈ excT := by
  unfold exn
  by_cases h1 : x = 1
  · rw [if_pos h1]; decide +kernel
  · rw [if_neg h1]
    by_cases h2 : x = 2
    · rw [if_pos h2]; decide +kernel
    · rw [if_neg h2]; decide +kernel
theorem kh {X : Cxt} {hh : List (Nat × Nat × Nat × Nat)} {mc ms a b : Nat} (hN : NH X hh mc ms) (h1 : a ≤ mc) (h2 : b ≤ ms) : a ≤ (xR X).cells ∧ b ≤ (xR X).slots := ⟨by rw [hN.2.1]; exact h1, by rw [hN.2.2]; exact h2⟩
section VWRAP
variable {X : Cxt} {k n mc ms : Nat} {Q : State → Prop} {pc : Nat} {ls ls' : List (Option Value)} {st : List Value} {M : Mem} {own : String} {cc : ByteArray} {nL lv : Nat} {ret : Option FieldType}
theorem x_xVc (hX : Gd X own cc nL ret lv) {hh : List (Nat × Nat × Nat × Nat)} (hN : NH X hh mc ms) {m : Mth} {lz idx np i t mc' ms' : Nat} {As rest : List Value} {x : Nat} {M1 : Mem} (pre suf : List (Nat × Nat × Nat × Nat)) (z : Nat × Nat × Nat × Nat) (hsp : hh = pre ++ z :: suf) (hpass : ∀ q ∈ pre, q.2.2.2 ≠ 0 ∧ ∃ nm, nm ∈ excT ∧ exn x ≠ nm ∧ Cond.classLink own q.2.2.2 nm ∈ WS) (hcov : covers ⟨z.1, z.2.1, z.2.2.1, z.2.2.2⟩ pc = true) (h0 : z.2.2.2 ≠ 0) (hlk : Cond.classLink own z.2.2.2 (exn x) ∈ WS)
    (d : decode cc pc = .ok (.invokevirtual idx, 3)) (hc : Cx (xl X) (xG X) m lz mc' ms' (vr (xG X) i :: As) M (.inl x) M1) (hm : MK m np) (hv : MV m) (hl : Cond.methodLink own idx (mY m) ∈ WS) (hi : at_ (xG X) i (10 + t) 0) (ht : (vwCl[t]?).map (fun q => q.1) = some (mY m).cls) (hn : As.length = np) (hlv : Nat.ble (lz + 1) lv = true) (hst : st = As.reverse ++ vr (xG X) i :: rest) (hw : (rest.map fun v => v.category).sum ≤ 8) (hk : k + mc' ≤ mc) (hn2 : n + ms' ≤ ms) (kk : ∀ q : Nat, V X (k + mc') (n + ms') Q z.2.2.1 ls [.ref q] M1) : V X k n Q pc ls st M := by
  intro H locs la hl' hP hD hS
  have hT := hX.2.2.2.2.2.2.2.2.2.2.2.2.1.2.2.2.2.2.2
  refine x_goT hX.2.2.2.2.2.2.2.2.2.2.2.2.2.2.1 (x_runV hX hl' hP hD hS d hc hm hv hl hi ht hn hlv hst hw (kh hN hk hn2)) hS (fun H1 locs1 q ce hP1 hD1 hS1 h1 h2 h3 => ?_)
  refine vx_catch (name := exn x) hX.2.2.2.1 (tableOf pre) ⟨z.1, z.2.1, z.2.2.1, z.2.2.2⟩ (tableOf suf) (by rw [hN.1, hsp]; simp [tableOf]) (fun y hy => ?_) hcov h0 (hX.2.2.2.2.1 _ hlk) (va_Nw.use rfl (hT.1 _ (exn_mem x))) h1 h2 h3 (kk q H1 locs1 la hl' hP1 hD1 hS1)
  obtain ⟨u, hu, rfl⟩ := List.mem_map.mp hy
  obtain ⟨g1, nm, g2, g3, g4⟩ := hpass u hu
  exact Or.inr ⟨g1, nm, hX.2.2.2.2.1 _ g4, hT.2.2.2.1 _ (exn_mem x) _ g2 g3⟩
theorem x_astoreq (hX : Gd X own cc nL ret lv) {i a : Nat} (d : decode cc pc = .ok (.astore i, 2)) (hn : Nat.blt i nL = true) (hs : ls.set i (some (.ref a)) = ls') (kk : V X k n Q (pc + 2) ls' st M) : V X k n Q pc ls (.ref a :: st) M := by
  subst hs
  exact fun H locs la hl hP hD hS => lv_astore hX.1 hX.2.1 d hl.has (by rw [hX.2.2.1]; exact Nat.le_of_ble_eq_true hn) rfl (fun la' h' => kk H locs la' (hl.put h' rfl) hP hD hS)
theorem x_astoreqn (hX : Gd X own cc nL ret lv) {j : Fin 4} {a : Nat} (d : decode cc pc = .ok (.astore_n j, 1)) (hn : Nat.blt (j : Nat) nL = true) (hs : ls.set (j : Nat) (some (.ref a)) = ls') (kk : V X k n Q (pc + 1) ls' st M) : V X k n Q pc ls (.ref a :: st) M := by
  subst hs
  exact fun H locs la hl hP hD hS => lv_astore_n hX.1 hX.2.1 d rfl hl.has (by rw [hX.2.2.1]; exact Nat.le_of_ble_eq_true hn) rfl (fun la' h' => kk H locs la' (hl.put h' rfl) hP hD hS)
/-- a place of the row of halls -/
theorem x_aald6 (hX : Gd X own cc nL ret lv) {a : Nat} {i : Int} (d : decode cc pc = .ok (.aaload, 1)) (ha : at_ (xG X) a 6 2) (hb : inb i 2) (h0 : ¬ M a (ix i) = 0) (kk : V X k n Q (pc + 1) ls (vr (xG X) (160 + 18 * ix i) :: st) M) : V X k n Q pc ls (vi i :: vr (xG X) a :: st) M := by
  intro H locs la hl hP hD hS
  obtain ⟨q, hq⟩ := at_k ha
  refine va_aldq (D := gDz (xG X)) (cl := vwCl) (f := fun j => if M a j = 0 then none else some (gad (xG X) (160 + 18 * j))) hX.1 hX.2.1 hX.2.2.2.2.2.2.2.1 hP q 5 (by rw [wl_at M hq, ent6 ha.2]) rfl (inb_vp hb) d ?_
  have e : (if M a (Int32.ofInt i).toNatClampNeg = 0 then (none : Option Nat) else some (gad (xG X) (160 + 18 * (Int32.ofInt i).toNatClampNeg))) = some (gad (xG X) (160 + 18 * ix i)) := if_neg h0
  show W _ _ _ _ _ _ _ _ _ _ _ _ _ _ _ (F0 _ _ _ (va_rf (if M a (Int32.ofInt i).toNatClampNeg = 0 then (none : Option Nat) else some (gad (xG X) (160 + 18 * (Int32.ofInt i).toNatClampNeg))) :: st))
  rw [e]
  exact kk H locs la hl hP hD hS
theorem x_aald6z (hX : Gd X own cc nL ret lv) {a : Nat} {i : Int} (d : decode cc pc = .ok (.aaload, 1)) (ha : at_ (xG X) a 6 2) (hb : inb i 2) (h0 : M a (ix i) = 0) (kk : V X k n Q (pc + 1) ls (.null :: st) M) : V X k n Q pc ls (vi i :: vr (xG X) a :: st) M := by
  intro H locs la hl hP hD hS
  obtain ⟨q, hq⟩ := at_k ha
  refine va_aldq (D := gDz (xG X)) (cl := vwCl) (f := fun j => if M a j = 0 then none else some (gad (xG X) (160 + 18 * j))) hX.1 hX.2.1 hX.2.2.2.2.2.2.2.1 hP q 5 (by rw [wl_at M hq, ent6 ha.2]) rfl (inb_vp hb) d ?_
  have e : (if M a (Int32.ofInt i).toNatClampNeg = 0 then (none : Option Nat) else some (gad (xG X) (160 + 18 * (Int32.ofInt i).toNatClampNeg))) = none := if_pos h0
  show W _ _ _ _ _ _ _ _ _ _ _ _ _ _ _ (F0 _ _ _ (va_rf (if M a (Int32.ofInt i).toNatClampNeg = 0 then (none : Option Nat) else some (gad (xG X) (160 + 18 * (Int32.ofInt i).toNatClampNeg))) :: st))
  rw [e]
  exact kk H locs la hl hP hD hS
theorem x_nstoren (hX : Gd X own cc nL ret lv) {j : Fin 4} (d : decode cc pc = .ok (.astore_n j, 1)) (hn : Nat.blt (j : Nat) nL = true) (hs : ls.set (j : Nat) (some .null) = ls') (kk : V X k n Q (pc + 1) ls' st M) : V X k n Q pc ls (.null :: st) M := by
  subst hs
  exact fun H locs la hl hP hD hS => lv_astore_nN hX.1 hX.2.1 d rfl hl.has (by rw [hX.2.2.1]; exact Nat.le_of_ble_eq_true hn) rfl (fun la' h' => kk H locs la' (hl.put h' rfl) hP hD hS)
theorem x_nloadn (hX : Gd X own cc nL ret lv) {j : Fin 4} (d : decode cc pc = .ok (.aload_n j, 1)) (hi : ls[(j : Nat)]? = some (some .null)) (kk : V X k n Q (pc + 1) ls (.null :: st) M) : V X k n Q pc ls st M :=
  fun H locs la hl hP hD hS => lv_aload_nN hX.1 hX.2.1 d rfl (hl.at hi) (kk H locs la hl hP hD hS)
theorem x_nonnullR (hX : Gd X own cc nL ret lv) {off : Int} {tgt a : Nat} (d : decode cc pc = .ok (.ifnonnull off, 3)) (ht : (pc : Int) + off = (tgt : Int)) (kk : V X k n Q tgt ls st M) : V X k n Q pc ls (vr (xG X) a :: st) M :=
  fun H locs la hl hP hD hS => lv_ifnonnull hX.1 hX.2.1 d ht (kk H locs la hl hP hD hS)
theorem x_nonnullN (hX : Gd X own cc nL ret lv) {off : Int} (d : decode cc pc = .ok (.ifnonnull off, 3)) (kk : V X k n Q (pc + 3) ls st M) : V X k n Q pc ls (.null :: st) M :=
  fun H locs la hl hP hD hS => lv_ifnonnullN hX.1 hX.2.1 d (kk H locs la hl hP hD hS)
end VWRAP
theorem Cw_of {l : Launch} {G : Gx} {m : Mth} {hh : List (Nat × Nat × Nat × Nat)} {lv np mc ms : Nat} {av : List Value} {M M1 : Mem} {rv : Option Value} (hG : GOK G) (hl : l.stackTraces = false) (hm : MKh m hh np) (hc : av.all (fun v => v.category == 1) = true) (hn : av.length ≤ mN m) {own : String} (ho : own = (mY m).cls) {cc : ByteArray} (hcc : mC m = cc) {nL : Nat} (hnL : mN m = nL) {ret : Option FieldType} (hret : mR m = ret) {ls : List (Option Value)} (hls : av.map some ++ List.replicate (nL - av.length) none = ls)
    (body : ∀ X : Cxt, xG X = G → xl X = l → Gd X own cc nL ret lv → NH X hh mc ms → V X 0 0 (Qx X mc ms (.inr rv) M1) 0 ls [] M) : Cw l G m hh lv mc ms av M rv M1 := by
  subst ho; subst hcc; subst hnL; subst hret; subst hls
  have hc' : ∀ v ∈ av, v.category = 1 := fun v hv => by have := List.all_eq_true.mp hc v hv; simpa using this
  refine vx_ofWH (cc := mC m) (maxL := mN m) (ret := mR m) (hh := hh) hm.2.2.2.2.1 rfl ?_
  intro p e s md args below meth c s₁ B hml hv
  obtain ⟨rfl, hP, hK, hD, hsz, hST⟩ := hv
  have hts0 := atoms_spec (ws := wsH m hh) B.pre
  have hts : ∀ w ∈ WS, w.before av.toArray s = true := fun w hw => hts0 w (List.mem_cons_of_mem _ hw)
  have htb := vx_table (x := mY m) B (hts0 _ List.mem_cons_self)
  have hb := body (gA G, G, p, l, e, (headSpec (wsH m hh) (rmk lv mc ms)).room, s, md, av.toArray, below, meth, c) rfl rfl ⟨B.exec, B.bytes, hml, findClass_of_methodNamed B.named, hts, B.notSynchronized, B.returns, hK, hG, hsz, Nat.le_refl _, Nat.le_refl _, hST, hl, fun _ h => h, hG.a0⟩ ⟨htb, rfl, rfl⟩
  rw [lg_entry_eq]
  exact hb s.heap [] _ (by rw [hml]; exact LV.entry av (mN m) hc' hn) hP hD va_S.rf
