-- ===== a world that grows: new at the machine's own level, the row of halls written, save =====
theorem Gd_of {X : Cxt} {own : String} {cc : ByteArray} {nL lv : Nat} {ret : Option FieldType} (hX : Gd X own cc nL ret lv) {G1 : Gx} (ht : G1.2.2 = (xG X).2.2) (hgok : GOK G1) (hsub : ∀ q, gA G1 q → xA X q) : Gd (xA X, G1, X.2.2) own cc nL ret lv := by
  have hS0 : gSz G1 = gSz (xG X) := by unfold gSz; rw [ht]
  have hGD : gDz G1 = gDz (xG X) := by unfold gDz; rw [ht]
  have hA0 : ∀ q, xA X q → gA0 G1 q := fun q h => by show gSz G1 ≤ q; rw [hS0]; exact hX.2.2.2.2.2.2.2.2.2.2.2.2.2.2.2 q h
  have hty : tys G1 = tys (xG X) := by
    have : gcy G1 = gcy (xG X) := by unfold gcy; rw [ht]
    unfold tys
    rw [this]
  have hST : STf G1 (xs X) := by
    have h := hX.2.2.2.2.2.2.2.2.2.2.2.2.1
    have ea : gA0 G1 = gA0 (xG X) := by unfold gA0; rw [hS0]
    have eb : gsK G1 = gsK (xG X) := by unfold gsK; rw [ht]
    have ec : gsV G1 = gsV (xG X) := by unfold gsV; rw [ht]
    unfold STf at h ⊢
    rw [ea, eb, ec]
    exact h
  exact ⟨hX.1, hX.2.1, hX.2.2.1, hX.2.2.2.1, hX.2.2.2.2.1, hX.2.2.2.2.2.1, hX.2.2.2.2.2.2.1, by show va_K (gDz G1) vwCl (tys G1) (xs X); rw [hGD, hty]; exact hX.2.2.2.2.2.2.2.1, hgok, by show gSz G1 ≤ _; rw [hS0]; exact hX.2.2.2.2.2.2.2.2.2.1, hX.2.2.2.2.2.2.2.2.2.2.1, hX.2.2.2.2.2.2.2.2.2.2.2.1, hST, hX.2.2.2.2.2.2.2.2.2.2.2.2.2.1, hsub, hA0⟩
theorem CL_gj {G Gs : Gx} {M Ms : Mem} {Ls : List Nat} (hLs : gL Gs = Ls) (hd : ∀ i ∈ gL G, i ∉ Ls) (hc : CL G M) (hcs : CL Gs Ms) {G1 : Gx} (h1 : gL G1 = gL G ++ Ls) : CL G1 (mj M Ms Ls) := by
  intro i hi
  rw [h1] at hi ⊢
  rcases List.mem_append.mp hi with h | h
  · have hM : mj M Ms Ls i = M i := by unfold mj; rw [if_neg (hd i h)]
    exact ⟨(hc i h).1, fun r hr => List.mem_append_left _ ((hc i h).2 r ((refd_congr hM).mp hr))⟩
  · have hM : mj M Ms Ls i = Ms i := by unfold mj; rw [if_pos h]
    have h' : i ∈ gL Gs := by rw [hLs]; exact h
    exact ⟨(hcs i h').1, fun r hr => List.mem_append_right _ (hLs ▸ (hcs i h').2 r ((refd_congr hM).mp hr))⟩
section VGROW
variable {X : Cxt} {k n mc ms : Nat} {Q : State → Prop} {pc : Nat} {ls ls' : List (Option Value)} {st : List Value} {M : Mem} {own : String} {cc : ByteArray} {nL lv : Nat} {ret : Option FieldType}
theorem x_newV (hX : Gd X own cc nL ret lv) {m : Mth} {lz idx idx2 N mc' ms' i' ci' : Nat} {Ls : List Nat} {Ms : Mem} (d0 : decode cc pc = .ok (.new idx, 3)) (d3 : decode cc (pc + 3) = .ok (.dup, 1)) (d4 : decode cc (pc + 3 + 1) = .ok (.invokespecial idx2, 3)) (hw : NWW own idx idx2 m ci' N) (hc : Ci (xl X) (xG X) m lz mc' ms' i' ci' Ls Ms) (hlv : Nat.ble (lz + 1) lv = true) (hst : (st.map fun v => v.category).sum + 1 ≤ 8) (hB : ∀ q, (xs X).heap.size ≤ q → xA X q) (hkc : k + 1 + mc' ≤ (xR X).cells) (hnc : n + N + ms' ≤ (xR X).slots) (hdis : ∀ r ∈ gL (xG X), r ∉ Ls) (hi' : i' ∈ Ls) (hcl : CL (xG X) M) (hcs : ∀ Gs : Gx, gL Gs = Ls → CL Gs Ms) (hnd : Ls.Nodup)
    (kk : ∀ G1 : Gx, G1.2.2 = (xG X).2.2 → gL G1 = gL (xG X) ++ Ls → (∀ r ∈ gL (xG X), gad G1 r = gad (xG X) r) → Gd (xA X, G1, X.2.2) own cc nL ret lv → CL G1 (mj M Ms Ls) → V (xA X, G1, X.2.2) (k + 1 + mc') (n + N + ms') Q (pc + 7) ls (vr G1 i' :: st) (mj M Ms Ls)) : V X k n Q pc ls st M := by
  intro H locs la hl hP hD hS
  refine w_new hX d0 d3 d4 hw hc hlv hst hB hX.2.2.2.2.2.2.2.2.2.2.2.2.2.2.2 hkc hnc hl.1 hP hD hS (fun Gs H1 locs1 a1 a2 hP1 hD1 hS1 => ?_)
  have e1 : wl (gj (xG X) Gs) (mj M Ms Ls) = wl (xG X) M ++ wl Gs Ms := by
    have := wl_gj (G := xG X) (Gs := Gs) (M := M) (Ms := Ms) a1 (fun r hr => by rw [a2]; exact hdis r hr) hcl (hcs Gs a2)
    rw [a2] at this
    exact this
  have e3 : gad (gj (xG X) Gs) i' = gad Gs i' := by
    show (if i' ∈ gL Gs then _ else _) = _
    rw [if_pos (by rw [a2]; exact hi')]
  have hL1 : gL (gj (xG X) Gs) = gL (xG X) ++ Ls := by show gL (xG X) ++ gL Gs = _; rw [a2]
  have hcl1 : CL (gj (xG X) Gs) (mj M Ms Ls) := CL_gj a2 hdis hcl (hcs Gs a2) hL1
  rw [← e1] at hP1 hD1
  have hsub : ∀ q, gA (gj (xG X) Gs) q → xA X q := by
    rintro q ⟨r, hr, rfl⟩
    obtain ⟨k, hk⟩ := List.getElem?_of_mem hr
    exact hD1.2 k _ (wl_at _ hk)
  have hgok : GOK (gj (xG X) Gs) := GOK_of (by rw [hL1]; exact List.nodup_append.mpr ⟨hX.2.2.2.2.2.2.2.2.1.1, hnd, fun a ha b hb e => hdis a ha (e ▸ hb)⟩) hcl1 (fun r hr => hX.2.2.2.2.2.2.2.2.2.2.2.2.2.2.2 _ (hsub _ ⟨r, hr, rfl⟩))
  have := kk (gj (xG X) Gs) rfl hL1 (fun r hr => by show (if r ∈ gL Gs then _ else _) = _; rw [if_neg (by rw [a2]; exact hdis r hr)]) (Gd_of hX rfl hgok hsub) hcl1 H1 locs1 la hl hP1 hD1 hS1
  unfold vr at this ⊢
  rw [e3] at this
  exact this
/-- a hall is put into the row of halls -/
theorem x_aast6 (hX : Gd X own cc nL ret lv) {a b : Nat} {i : Int} (d : decode cc pc = .ok (.aastore, 1)) (ha : at_ (xG X) a 6 2) (hb : inb i 2) (hbe : b = 160 + 18 * ix i) (hh : at_ (xG X) b 11 0) (kk : V X k n Q (pc + 1) ls st (upd2 M a (ix i) 1)) : V X k n Q pc ls (vr (xG X) b :: vi i :: vr (xG X) a :: st) M := by
  subst hbe
  intro H locs la hl hP hD hS
  obtain ⟨q, hq⟩ := at_k ha
  obtain ⟨q2, hq2⟩ := at_k hh
  have hw : (wl (xG X) M).set q (gad (xG X) a, .inl (gcy (xG X) 5, 2, .inr (.inr (.inr (.inr (va_up (fun j => if M a j = 0 then none else some (gad (xG X) (160 + 18 * j))) (Int32.ofInt i).toNatClampNeg (some (gad (xG X) (160 + 18 * ix i))))))))) = wl (xG X) (upd2 M a (ix i) 1) := by
    refine wl_set hX.2.2.2.2.2.2.2.2.1.1 hq ?_ (fun j hj => upd2_ne hj)
    rw [ent6 ha.2]
    congr 6
    congr 1
    funext j
    rw [upd2_at]
    unfold va_up
    by_cases e : j = ix i
    · subst e
      simp [ix]
    · have e' : ¬ j = (Int32.ofInt i).toNatClampNeg := e
      simp [e, e']
  refine va_astq (D := gDz (xG X)) (cl := vwCl) (f := fun j => if M a j = 0 then none else some (gad (xG X) (160 + 18 * j))) hX.1 hX.2.1 hX.2.2.2.2.2.2.2.1 hP hD hS q 5 q2 1 (by rw [wl_at M hq, ent6 ha.2]) rfl (by rw [wl_at M hq2, entO (show kd (160 + 18 * ix i) = (10 + 1, 0) from hh.2)]) rfl (inb_vp hb) d (fun H1 locs1 hP1 hD1 hS1 => ?_)
  rw [hw] at hP1 hD1
  exact kk H1 locs1 la hl hP1 hD1 hS1
end VGROW
def gB (G : Gx) (sz : Nat) : Nat → Prop := fun q => gA G q ∨ sz ≤ q
def Qg (G : Gx) (sz : Nat) (rv : Option Value) (Ls : List Nat) (M1 : Mem) : Array Value → State → Outcome → State → Prop := fun _ st oc t =>
  (oc = .returned rv ∧ ∃ G1 : Gx, G1.2.2 = G.2.2 ∧ gL G1 = gL G ++ Ls ∧ (∀ r ∈ gL G, gad G1 r = gad G r) ∧ GOK G1 ∧ Wd G1 M1 t ∧ ∀ q, gA G1 q → gB G sz q) ∧ va_F (gB G sz) st t
/-- the contract of a method that makes the cells Ls -/
def Cg (l : Launch) (G : Gx) (m : Mth) (ws : List Cond) (lv mc ms : Nat) (av : List Value) (M : Mem) (rv : Option Value) (Ls : List Nat) (M1 : Mem) : Prop := ∀ sz : Nat,
  vx_Met l (mY m) ws (rmk lv mc ms) (va_Pc av (fun U => U.heap.size = sz ∧ Wd G M U)) (Qg G sz rv Ls M1) (fun _ _ _ => False) mc ms (gB G sz)
def QG (X : Cxt) (G : Gx) (mc ms : Nat) (rv : Option Value) (Ls : List Nat) (M1 : Mem) : State → Prop := vx_MQ (xb X) (Qg G (xs X).heap.size rv Ls M1) (fun _ _ _ => False) (xa X) (xs X) mc ms (gB G (xs X).heap.size)
section XGO3
variable {p : Program} {l : Launch} {e : Env} {R : Room} {s : State} {m : MethodId} {args : Array Value} {below : List Frame} {meth : Method} {c : Code} {H : Heap} {locs : List Loc} {k n mc ms : Nat} {Q : State → Prop}
theorem x_goG {A : Nat → Prop} {G : Gx} (hA : ∀ q, gB G H.size q → A q) {M1 : Mem} {Ls : List Nat} {rv : Option Value} {pc : Nat} {la : Array Slot} {st0 rest : List Value} {a : Array Value} (hr : vx_Run p l e R s m args below meth c H locs k n mc ms (F0 m pc la st0) rest (Qg G H.size rv Ls M1 a) (fun _ _ _ => False) (gB G H.size)) (hS : va_S A s.heap H locs)
    (kk : ∀ (G1 : Gx) (H1 : Heap) (locs1 : List Loc), G1.2.2 = G.2.2 → gL G1 = gL G ++ Ls → (∀ r ∈ gL G, gad G1 r = gad G r) → GOK G1 → (∀ q, gA G1 q → A q) → va_P (gDz G1) vwCl (wl G1 M1) H1 → va_D A (wl G1 M1) → va_S A s.heap H1 locs1 → W p l e R s m args below meth c H1 locs1 (k + mc) (n + ms) Q (F0 m (pc + 3) la (rv.toList ++ rest))) : W p l e R s m args below meth c H locs k n Q (F0 m pc la st0) := by
  intro T hT X
  rcases hr T hT X with ⟨v, st₀, t, T', L, h0, X', hL, e1, e2, ⟨⟨hv, G1, g1, g2, g3, g4, g5, g6⟩, hF⟩, st⟩ | ⟨q, st₀, t, T', L, E, ce, h0, X', hL, e1, e2, hf, -⟩
  · cases hv
    obtain ⟨k1, k2, k3⟩ := vx_keep h0 e1 hS (fun q _ h => hA q h) (fun q h => hA q h) hL hF
    obtain ⟨t2, a1, b1⟩ := kk G1 T'.heap (locs ++ L) g1 g2 g3 g4 (fun q h => hA q (g6 q h)) (by rw [e1]; exact g5.1) (D_mono (fun q h => hA q (g6 q h)) g5.2.2.1) k3 T' rfl X'
    exact ⟨t2, st t2 a1, b1⟩
  · exact hf.elim
end XGO3
section VGROW2
variable {X : Cxt} {k n mc ms : Nat} {Q : State → Prop} {pc : Nat} {ls ls' : List (Option Value)} {st : List Value} {M : Mem} {own : String} {cc : ByteArray} {nL lv : Nat} {ret : Option FieldType}
theorem gB_sub (hX : Gd X own cc nL ret lv) (hB : ∀ q, (xs X).heap.size ≤ q → xA X q) {H : Heap} {locs : List Loc} (hS : va_S (xA X) (xs X).heap H locs) : ∀ q, gB (xG X) H.size q → xA X q := fun q h => h.elim (hX.2.2.2.2.2.2.2.2.2.2.2.2.2.2.1 q) (fun z => hB q (Nat.le_trans hS.1 z))
theorem x_xVg (hX : Gd X own cc nL ret lv) {m : Mth} {lz idx np i t mc' ms' : Nat} {As rest : List Value} {rv : Option Value} {Ls : List Nat} {M1 : Mem} (d : decode cc pc = .ok (.invokevirtual idx, 3)) (hc : Cg (xl X) (xG X) m (wsM m) lz mc' ms' (vr (xG X) i :: As) M rv Ls M1) (hm : MK m np) (hv : MV m) (hl : Cond.methodLink own idx (mY m) ∈ WS) (hi : at_ (xG X) i (10 + t) 0) (ht : (vwCl[t]?).map (fun q => q.1) = some (mY m).cls) (hn : As.length = np) (hlv : Nat.ble (lz + 1) lv = true) (hst : st = As.reverse ++ vr (xG X) i :: rest) (hw : (rest.map fun v => v.category).sum ≤ 8) (hf : k + mc' ≤ (xR X).cells ∧ n + ms' ≤ (xR X).slots) (hB : ∀ q, (xs X).heap.size ≤ q → xA X q)
    (kk : ∀ G1 : Gx, G1.2.2 = (xG X).2.2 → gL G1 = gL (xG X) ++ Ls → (∀ r ∈ gL (xG X), gad G1 r = gad (xG X) r) → Gd (xA X, G1, X.2.2) own cc nL ret lv → V (xA X, G1, X.2.2) (k + mc') (n + ms') Q (pc + 3) ls (rv.toList ++ rest) M1) : V X k n Q pc ls st M := by
  intro H locs la hl' hP hD hS
  obtain ⟨q, hq⟩ := at_k hi
  cases hcl : vwCl[t]? with
  | none => rw [hcl] at ht; cases ht
  | some r =>
  rw [hcl] at ht
  have hr : r.1 = (mY m).cls := Option.some.inj ht
  refine x_goG (a := (vr (xG X) i :: As).toArray) (rest := rest) (gB_sub hX hB hS) (vx_runV (As := As) (rest := rest) (C := (mY m).cls) (b := gad (xG X) i) (n := np) ⟨hX.1, hX.2.1, hX.2.2.1, hX.2.2.2.1, hX.2.2.2.2.1⟩ (hc H.size) ⟨x_callB hX hm hl hlv, hX.2.2.2.2.1 _ hv.1, hX.2.2.2.2.1 _ hv.2⟩ ⟨fun a U g mk z => ⟨z.1, z.2.1, z.2.2.same rfl rfl⟩, ?_, fun U hU hW => ⟨rfl, by rw [hU], x_wd hX hP hD hS hU hW⟩⟩ rfl hn (hl'.1.trans hX.2.2.1) hst (lv_room hw) d hf) hS (fun G1 H1 locs1 g1 g2 g3 g4 g5 hP1 hD1 hS1 => kk G1 g1 g2 g3 (Gd_of hX g1 g4 g5) H1 locs1 la hl' hP1 hD1 hS1)
  rw [← hr]
  exact va_recv hX.2.2.2.2.2.2.2.1 hP hcl (q0 := q) (by rw [wl_at M hq, entO hi.2])
theorem x_vretG {G : Gx} {Ls : List Nat} (hX : Gd X own cc nL none lv) (hT : (xG X).2.2 = G.2.2) (hL : gL (xG X) = gL G ++ Ls) (ha : ∀ r ∈ gL G, gad (xG X) r = gad G r) (hxA : xA X = gB G (xs X).heap.size) (d : decode cc pc = .ok (.return_, 1)) (hk : k ≤ mc) (hn : n ≤ ms) : V X k n (QG X G mc ms none Ls M) pc ls [] M := by
  intro H locs la hl' hP hD hS
  refine W.widen (k := mc) (n := ms) hk hn (vx_ret ?_)
  exact W.vret hX.1 hX.2.1 hX.2.2.2.2.2.2.1 (fun t ht hW => ⟨⟨rfl, xG X, hT, hL, ha, hX.2.2.2.2.2.2.2.2.1, x_wd hX hP hD hS ht hW, fun q h => hxA ▸ hX.2.2.2.2.2.2.2.2.2.2.2.2.2.2.1 q h⟩, hxA ▸ hS.F ht⟩) (hxA ▸ hS.2.2) d hX.2.2.2.2.2.1
theorem x_iretG {G : Gx} {Ls : List Nat} {v : Int} (hX : Gd X own cc nL (some .int) lv) (hT : (xG X).2.2 = G.2.2) (hL : gL (xG X) = gL G ++ Ls) (ha : ∀ r ∈ gL G, gad (xG X) r = gad G r) (hxA : xA X = gB G (xs X).heap.size) (d : decode cc pc = .ok (.ireturn, 1)) (hk : k ≤ mc) (hn : n ≤ ms) : V X k n (QG X G mc ms (some (vi v)) Ls M) pc ls [vi v] M := by
  intro H locs la hl' hP hD hS
  refine W.widen (k := mc) (n := ms) hk hn (vx_ret ?_)
  exact W.iret hX.1 hX.2.1 hX.2.2.2.2.2.2.1 (fun t ht hW => ⟨⟨rfl, xG X, hT, hL, ha, hX.2.2.2.2.2.2.2.2.1, x_wd hX hP hD hS ht hW, fun q h => hxA ▸ hX.2.2.2.2.2.2.2.2.2.2.2.2.2.2.1 q h⟩, hxA ▸ hS.F ht⟩) (hxA ▸ hS.2.2) d hX.2.2.2.2.2.1
end VGROW2
theorem Cg_of {l : Launch} {G : Gx} {m : Mth} {lv np mc ms : Nat} {av : List Value} {M M1 : Mem} {rv : Option Value} {Ls : List Nat} (hG : GOK G) (hl : l.stackTraces = false) (hm : MK m np) (hc : av.all (fun v => v.category == 1) = true) (hn : av.length ≤ mN m) {own : String} (ho : own = (mY m).cls) {cc : ByteArray} (hcc : mC m = cc) {nL : Nat} (hnL : mN m = nL) {ret : Option FieldType} (hret : mR m = ret) {ls : List (Option Value)} (hls : av.map some ++ List.replicate (nL - av.length) none = ls)
    (body : ∀ X : Cxt, xG X = G → xl X = l → Gd X own cc nL ret lv → NX X mc ms → xA X = gB (xG X) (xs X).heap.size → V X 0 0 (QG X (xG X) mc ms rv Ls M1) 0 ls [] M) : Cg l G m (wsM m) lv mc ms av M rv Ls M1 := by
  subst ho; subst hcc; subst hnL; subst hret; subst hls
  intro sz
  have hc' : ∀ v ∈ av, v.category = 1 := fun v hv => by have := List.all_eq_true.mp hc v hv; simpa using this
  refine vx_ofW (cc := mC m) (maxL := mN m) (ret := mR m) hm.2.2.2.2 rfl ?_
  intro p e s md args below meth c s₁ B hml ht hv
  obtain ⟨rfl, rfl, hP, hK, hD, hsz, hST⟩ := hv
  have hts0 := atoms_spec (ws := wsM m) B.pre
  have hts : ∀ w ∈ WS, w.before av.toArray s = true := fun w hw => hts0 w (List.mem_cons_of_mem _ hw)
  have hb := body (gB G s.heap.size, G, p, l, e, (headSpec (wsM m) (rmk lv mc ms)).room, s, md, av.toArray, below, meth, c) rfl rfl ⟨B.exec, B.bytes, hml, findClass_of_methodNamed B.named, hts, B.notSynchronized, B.returns, hK, hG, hsz, Nat.le_refl _, Nat.le_refl _, hST, hl, fun _ h => Or.inl h, fun q h => h.elim (hG.a0 q) (fun z => Nat.le_trans hsz z)⟩ ⟨ht, rfl, rfl⟩ rfl
  rw [lg_entry_eq]
  exact hb s.heap [] _ (by rw [hml]; exact LV.entry av (mN m) hc' hn) hP (D_mono (fun _ h => Or.inl h) hD) va_S.rf
theorem Cgh_of {l : Launch} {G : Gx} {m : Mth} {hh : List (Nat × Nat × Nat × Nat)} {lv np mc ms : Nat} {av : List Value} {M M1 : Mem} {rv : Option Value} {Ls : List Nat} (hG : GOK G) (hl : l.stackTraces = false) (hm : MKh m hh np) (hc : av.all (fun v => v.category == 1) = true) (hn : av.length ≤ mN m) {own : String} (ho : own = (mY m).cls) {cc : ByteArray} (hcc : mC m = cc) {nL : Nat} (hnL : mN m = nL) {ret : Option FieldType} (hret : mR m = ret) {ls : List (Option Value)} (hls : av.map some ++ List.replicate (nL - av.length) none = ls)
    (body : ∀ X : Cxt, xG X = G → xl X = l → Gd X own cc nL ret lv → NH X hh mc ms → xA X = gB (xG X) (xs X).heap.size → V X 0 0 (QG X (xG X) mc ms rv Ls M1) 0 ls [] M) : Cg l G m (wsH m hh) lv mc ms av M rv Ls M1 := by
  subst ho; subst hcc; subst hnL; subst hret; subst hls
  intro sz
  have hc' : ∀ v ∈ av, v.category = 1 := fun v hv => by have := List.all_eq_true.mp hc v hv; simpa using this
  refine vx_ofWH (cc := mC m) (maxL := mN m) (ret := mR m) (hh := hh) hm.2.2.2.2.1 rfl ?_
  intro p e s md args below meth c s₁ B hml hv
  obtain ⟨rfl, rfl, hP, hK, hD, hsz, hST⟩ := hv
  have hts0 := atoms_spec (ws := wsH m hh) B.pre
  have hts : ∀ w ∈ WS, w.before av.toArray s = true := fun w hw => hts0 w (List.mem_cons_of_mem _ hw)
  have htb := vx_table (x := mY m) B (hts0 _ List.mem_cons_self)
  have hb := body (gB G s.heap.size, G, p, l, e, (headSpec (wsH m hh) (rmk lv mc ms)).room, s, md, av.toArray, below, meth, c) rfl rfl ⟨B.exec, B.bytes, hml, findClass_of_methodNamed B.named, hts, B.notSynchronized, B.returns, hK, hG, hsz, Nat.le_refl _, Nat.le_refl _, hST, hl, fun _ h => Or.inl h, fun q h => h.elim (hG.a0 q) (fun z => Nat.le_trans hsz z)⟩ ⟨htb, rfl, rfl⟩ rfl
  rw [lg_entry_eq]
  exact hb s.heap [] _ (by rw [hml]; exact LV.entry av (mN m) hc' hn) hP (D_mono (fun _ h => Or.inl h) hD) va_S.rf
