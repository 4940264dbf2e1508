-- ===== calls, returns, a contract out of its walk =====
def MK (m : Mth) (np : Nat) : Prop := Cond.code (mY m) (mC m) (mN m) (mR m) ∈ WS ∧ Cond.initialized (mY m).cls ∈ WS ∧ ((mY m).cls ≠ "java/lang/invoke/MethodHandle" ∧ (mY m).cls ≠ "java/lang/invoke/VarHandle" ∧ (parseMethodDescriptor (mY m).desc).map (fun d => d.parameters.length) = some np) ∧ mN m ≤ 40 ∧ plainName (mY m).cls = true
def MV (m : Mth) : Prop := Cond.instanceMethod (mY m) ∈ WS ∧ Cond.selects (mY m).cls (mY m) (mY m) ∈ WS
def MS (m : Mth) : Prop := Cond.static (mY m) ∈ WS
theorem ws_good {w : Cond} (h : w ∈ WS) : (w.onTables && w.keeps) = true ∨ ∃ ty, w = .arrayClass ty := good_of_word (List.mem_filter.mp h).2
theorem ws_good_in {m : Mth} (h : Cond.code (mY m) (mC m) (mN m) (mR m) ∈ WS) : GoodIn WS (wsM m) := fun w hw => by
  rcases List.mem_cons.mp hw with e | hw
  · subst e; exact ⟨h, ws_good h⟩
  · exact ⟨hw, ws_good hw⟩
section XGO
variable {p : Program} {l : Launch} {e : Env} {R : Room} {s : State} {m : MethodId} {args : Array Value} {below : List Frame} {meth : Method} {c : Code} {H : Heap} {locs : List Loc} {k n : Nat} {Q : State → Prop}
theorem x_go {A : Nat → Prop} {G : Gx} (hA : ∀ q, gA G q → A q) {M1 : Mem} {rv : Option Value} {pc : Nat} {la : Array Slot} {st0 rest : List Value} {a : Array Value} (hr : va_Run p l e R s m args below meth c H locs k n 0 0 (F0 m pc la st0) rest (Qo rv (Wd G M1) (gA G) a) (gA G)) (hS : va_S A s.heap H locs)
    (kk : ∀ (H1 : Heap) (locs1 : List Loc), va_P (gDz G) vwCl (wl G M1) H1 → va_D A (wl G M1) → va_S A s.heap H1 locs1 → W p l e R s m args below meth c H1 locs1 k n Q (F0 m (pc + 3) la (rv.toList ++ rest))) : W p l e R s m args below meth c H locs k n Q (F0 m pc la st0) := by
  intro T hT X
  obtain ⟨v, st₀, t, T', L, h0, X', hL, e1, e2, ⟨⟨hv, hB⟩, hz, hk⟩, st⟩ := hr T hT X
  cases hv
  rw [h0] at hz hk
  obtain ⟨t2, a1, b1⟩ := kk T'.heap (locs ++ L) (by rw [e1]; exact hB.1) (D_mono hA hB.2.2.1)
    ⟨Nat.le_trans hS.1 (by rw [e1]; exact hz), fun q h1 h2 => by rw [e1, hk q (Nat.lt_of_lt_of_le h1 hS.1) (fun z => h2 (hA q z))]; exact hS.2.1 q h1 h2, fun q hq => by
      rcases List.mem_append.mp hq with h | h
      · exact hS.2.2 q h
      · exact hA _ (hL q h)⟩ T' rfl X'
  exact ⟨t2, st t2 a1, b1⟩
end XGO
theorem z0 {R : Room} : 0 ≤ R.cells ∧ 0 ≤ R.slots := ⟨Nat.zero_le _, Nat.zero_le _⟩
section VCALLS
variable {X : Cxt} {k n : Nat} {Q : State → Prop} {pc : Nat} {ls ls' : List (Option Value)} {st : List Value} {M : Mem} {own : String} {cc : ByteArray} {nL lv : Nat} {ret : Option FieldType}
theorem x_room {z lz lv : Nat} (h : z ≤ 40) (h1 : lz + 1 ≤ lv) : 8 + (z + 11) + (64 * lz + 300) ≤ 64 * lv + 300 := by omega
theorem x_callB (hX : Gd X own cc nL ret lv) {m : Mth} {lz idx np mc ms : Nat} (hm : MK m np) (hl : Cond.methodLink own idx (mY m) ∈ WS) (hlv : Nat.ble (lz + 1) lv = true) : CallB (xR X) (xs X) (xa X) own idx (mY m) (mC m) (mN m) (mR m) (wsM m) (rmk lz mc ms) mc ms np := by
  have h1 : lz + 1 ≤ lv := Nat.le_of_ble_eq_true hlv
  have h2 := hX.2.2.2.2.2.2.2.2.2.2.1
  have h3 := hX.2.2.2.2.2.2.2.2.2.2.2.1
  refine callB_of np hX.2.2.2.2.1 (ws_good_in hm.1) rfl rfl rfl (hX.2.2.2.2.1 _ hm.2.1) (hX.2.2.2.2.1 _ hl) hm.2.2.1 ⟨?_, ?_⟩
  · show lz + 10 + 1 ≤ (xR X).frames
    omega
  · show 8 + (mN m + 11) + (64 * lz + 300) ≤ (xR X).locals
    exact Nat.le_trans (x_room hm.2.2.2.1 h1) h3
theorem s0X (hX : Gd X own cc nL ret lv) {H0 H : Heap} {locs : List Loc} (hS : va_S (xA X) H0 H locs) : va_S (gA0 (xG X)) H0 H locs := S_mono hX.2.2.2.2.2.2.2.2.2.2.2.2.2.2.2 hS
theorem x_wd (hX : Gd X own cc nL ret lv) {H : Heap} {locs : List Loc} (hP : va_P (gDz (xG X)) vwCl (wl (xG X) M) H) (hD : va_D (xA X) (wl (xG X) M)) (hS : va_S (xA X) (xs X).heap H locs) {U : State} (hU : U.heap = H) (hW : (xs X).WarmedH U.vm) : Wd (xG X) M U :=
  ⟨by rw [hU]; exact hP, va_K.moved hW.alike hX.2.2.2.2.2.2.2.1, D_self hD, by rw [hU]; exact Nat.le_trans hX.2.2.2.2.2.2.2.2.2.1 hS.1, hX.2.2.2.2.2.2.2.2.2.2.2.2.1.step hW (s0X hX hS) hU⟩
theorem x_callV (hX : Gd X own cc nL ret lv) {m : Mth} {lz idx np i t : Nat} {As rest : List Value} {rv : Option Value} {M1 : Mem} (d : decode cc pc = .ok (.invokevirtual idx, 3)) (hc : Cn (xl X) (xG X) m lz (vr (xG X) i :: As) M rv M1) (hm : MK m np) (hv : MV m) (hl : Cond.methodLink own idx (mY m) ∈ WS) (hi : at_ (xG X) i (10 + t) 0) (ht : (vwCl[t]?).map (fun q => q.1) = some (mY m).cls) (hn : As.length = np) (hlv : Nat.ble (lz + 1) lv = true) (hst : st = As.reverse ++ vr (xG X) i :: rest) (hw : (rest.map fun v => v.category).sum ≤ 8) (hf : k ≤ (xR X).cells ∧ n ≤ (xR X).slots) (kk : V X k n Q (pc + 3) ls (rv.toList ++ rest) M1) : V X k n Q pc ls st M := by
  intro H locs la hl' hP hD hS
  obtain ⟨q, hq⟩ := at_k hi
  cases hcl : vwCl[t]? with
  | none => rw [hcl] at ht; cases ht
  | some r =>
  rw [hcl] at ht
  have hr : r.1 = (mY m).cls := Option.some.inj ht
  refine x_go hX.2.2.2.2.2.2.2.2.2.2.2.2.2.2.1 (a := (vr (xG X) i :: As).toArray) (rest := rest) (va_runV (As := As) (rest := rest) (C := (mY m).cls) (b := gad (xG X) i) (n := np) ⟨hX.1, hX.2.1, hX.2.2.1, hX.2.2.2.1, hX.2.2.2.2.1⟩ hc ⟨x_callB hX hm hl hlv, hX.2.2.2.2.1 _ hv.1, hX.2.2.2.2.1 _ hv.2⟩ ⟨Wd.blind, ?_, fun U hU hW => ⟨rfl, x_wd hX hP hD hS hU hW⟩⟩ rfl hn (hl'.1.trans hX.2.2.1) hst (lv_room hw) d hf) hS (fun H1 locs1 hP1 hD1 hS1 => kk H1 locs1 la hl' hP1 hD1 hS1)
  rw [← hr]
  exact va_recv hX.2.2.2.2.2.2.2.1 hP hcl (q0 := q) (by rw [wl_at M hq, entO hi.2])
theorem x_callS (hX : Gd X own cc nL ret lv) {m : Mth} {lz idx np : Nat} {As rest : List Value} {rv : Option Value} {M1 : Mem} (d : decode cc pc = .ok (.invokestatic idx, 3)) (hc : Cn (xl X) (xG X) m lz As M rv M1) (hm : MK m np) (hv : MS m) (hl : Cond.methodLink own idx (mY m) ∈ WS) (hn : As.length = np) (hlv : Nat.ble (lz + 1) lv = true) (hst : st = As.reverse ++ rest) (hw : (rest.map fun v => v.category).sum ≤ 8) (hf : k ≤ (xR X).cells ∧ n ≤ (xR X).slots) (kk : V X k n Q (pc + 3) ls (rv.toList ++ rest) M1) : V X k n Q pc ls st M := by
  intro H locs la hl' hP hD hS
  exact x_go hX.2.2.2.2.2.2.2.2.2.2.2.2.2.2.1 (a := As.toArray) (rest := rest) (va_runS (As := As) (rest := rest) (n := np) ⟨hX.1, hX.2.1, hX.2.2.1, hX.2.2.2.1, hX.2.2.2.2.1⟩ hc ⟨x_callB hX hm hl hlv, hX.2.2.2.2.1 _ hv⟩ ⟨Wd.blind, fun U hU hW => ⟨rfl, x_wd hX hP hD hS hU hW⟩⟩ rfl hn (hl'.1.trans hX.2.2.1) hst (lv_room hw) d hf) hS (fun H1 locs1 hP1 hD1 hS1 => kk H1 locs1 la hl' hP1 hD1 hS1)
theorem x_iret (hX : Gd X own cc nL (some .int) lv) {v : Int} {rv : Option Value} (d : decode cc pc = .ok (.ireturn, 1)) (hv : rv = some (vi v)) : V X 0 0 (Qn X rv M) pc ls [vi v] M := by
  intro H locs la hl' hP hD hS
  subst hv
  exact W.iret hX.1 hX.2.1 hX.2.2.2.2.2.2.1 (fun t ht hW => ⟨⟨rfl, x_wd hX hP hD hS ht hW⟩, hS.F ht⟩) hS.2.2 d hX.2.2.2.2.2.1
theorem x_zret (hX : Gd X own cc nL (some .boolean) lv) {v : Int} {rv : Option Value} (d : decode cc pc = .ok (.ireturn, 1)) (hz : w32 v = 0 ∨ w32 v = 1) (hv : rv = some (vi v)) : V X 0 0 (Qn X rv M) pc ls [vi v] M := by
  intro H locs la hl' hP hD hS
  subst hv
  have h0 : Int32.ofInt v = 0 ∨ Int32.ofInt v = 1 := by
    rcases hz with h | h
    · exact Or.inl (Int32.toInt_inj.mp h)
    · exact Or.inr (Int32.toInt_inj.mp h)
  refine W.zret hX.1 hX.2.1 hX.2.2.2.2.2.2.1 ?_ (fun t ht hW => ⟨⟨rfl, x_wd hX hP hD hS ht hW⟩, hS.F ht⟩) hS.2.2 d hX.2.2.2.2.2.1
  rcases h0 with h | h
  · rw [h]; rfl
  · rw [h]; rfl
theorem x_vret (hX : Gd X own cc nL none lv) {rv : Option Value} (d : decode cc pc = .ok (.return_, 1)) (hv : rv = none) : V X 0 0 (Qn X rv M) pc ls [] M := by
  intro H locs la hl' hP hD hS
  subst hv
  exact W.vret hX.1 hX.2.1 hX.2.2.2.2.2.2.1 (fun t ht hW => ⟨⟨rfl, x_wd hX hP hD hS ht hW⟩, hS.F ht⟩) hS.2.2 d hX.2.2.2.2.2.1
def MAXW (own : String) (idx : Nat) : Prop := Cond.methodLink own idx Lib.Math.max.name ∈ WS ∧ Cond.static Lib.Math.max.name ∈ WS ∧ Cond.initialized "java/lang/Math" ∈ WS ∧ Cond.code Lib.Math.max.name Lib.Math.max.code 2 (some .int) ∈ WS
def MINW (own : String) (idx : Nat) : Prop := Cond.methodLink own idx Lib.Math.min.name ∈ WS ∧ Cond.static Lib.Math.min.name ∈ WS ∧ Cond.initialized "java/lang/Math" ∈ WS ∧ Cond.code Lib.Math.min.name Lib.Math.min.code 2 (some .int) ∈ WS
theorem x_max (hX : Gd X own cc nL ret lv) {a b : Int} {idx : Nat} (d : decode cc pc = .ok (.invokestatic idx, 3)) (hm : MAXW own idx) (hw : (st.map fun v => v.category).sum ≤ 8) (hf : k ≤ (xR X).cells ∧ n ≤ (xR X).slots) (kk : V X k n Q (pc + 3) ls (vi (i_max a b) :: st) M) : V X k n Q pc ls (vi b :: vi a :: st) M := by
  intro H locs la hl' hP hD hS
  have h2 := hX.2.2.2.2.2.2.2.2.2.2.1
  have h3 := hX.2.2.2.2.2.2.2.2.2.2.2.1
  refine va_mmax hX.1 hX.2.1 hl'.1.symm hX.2.2.2.1 (hX.2.2.2.2.1 _ hm.1) (hX.2.2.2.2.1 _ hm.2.1) (hX.2.2.2.2.1 _ hm.2.2.1) (hX.2.2.2.2.1 _ hm.2.2.2) (by omega) (by omega) hf.1 hf.2 d ?_
  have e : (if Int32.ofInt a < Int32.ofInt b then Int32.ofInt b else Int32.ofInt a) = Int32.ofInt (i_max a b) := by
    unfold i_max
    by_cases q : w32 a < w32 b
    · rw [if_pos q, if_pos (w32_lt.mpr q)]
    · rw [if_neg q, if_neg (fun z => q (w32_lt.mp z))]
  rw [e]
  exact kk H locs la hl' hP hD hS
theorem x_min (hX : Gd X own cc nL ret lv) {a b : Int} {idx : Nat} (d : decode cc pc = .ok (.invokestatic idx, 3)) (hm : MINW own idx) (hw : (st.map fun v => v.category).sum ≤ 8) (hf : k ≤ (xR X).cells ∧ n ≤ (xR X).slots) (kk : V X k n Q (pc + 3) ls (vi (i_min a b) :: st) M) : V X k n Q pc ls (vi b :: vi a :: st) M := by
  intro H locs la hl' hP hD hS
  have h2 := hX.2.2.2.2.2.2.2.2.2.2.1
  have h3 := hX.2.2.2.2.2.2.2.2.2.2.2.1
  refine va_mmin hX.1 hX.2.1 hl'.1.symm hX.2.2.2.1 (hX.2.2.2.2.1 _ hm.1) (hX.2.2.2.2.1 _ hm.2.1) (hX.2.2.2.2.1 _ hm.2.2.1) (hX.2.2.2.2.1 _ hm.2.2.2) (by omega) (by omega) hf.1 hf.2 d ?_
  have e : (if Int32.ofInt b < Int32.ofInt a then Int32.ofInt b else Int32.ofInt a) = Int32.ofInt (i_min a b) := by
    unfold i_min
    by_cases q : w32 b < w32 a
    · rw [if_pos q, if_pos (w32_lt.mpr q)]
    · rw [if_neg q, if_neg (fun z => q (w32_lt.mp z))]
  first
    | rw [e]; exact kk H locs la hl' hP hD hS
    | (have e2 : (if Int32.ofInt a < Int32.ofInt b then Int32.ofInt a else Int32.ofInt b) = Int32.ofInt (i_min a b) := by
        unfold i_min
        by_cases q : w32 b < w32 a
        · rw [if_pos q, if_neg (fun z => absurd (w32_lt.mp z) (by omega))]
        · rw [if_neg q]
          by_cases q2 : w32 a < w32 b
          · rw [if_pos (w32_lt.mpr q2)]
          · rw [if_neg (fun z => q2 (w32_lt.mp z))]
            exact (w32_eq.mpr (by omega)).symm
       rw [e2]; exact kk H locs la hl' hP hD hS)
theorem x_tsI (hX : Gd X own cc nL ret lv) {v c dflt lo hi off : Int} {offs : Array Int} {len tgt : Nat} (d : decode cc pc = .ok (.tableswitch dflt lo hi offs, len)) (hv : w32 v = c) (h1 : ¬ c < lo) (h2 : ¬ hi < c) (ho : offs[(c - lo).toNat]? = some off) (ht : (pc : Int) + off = (tgt : Int)) (kk : V X k n Q tgt ls st M) : V X k n Q pc ls (vi v :: st) M := by
  intro H locs la hl' hP hD hS
  subst hv
  exact lv_tableIn hX.1 hX.2.1 d h1 h2 ho ht (kk H locs la hl' hP hD hS)
theorem x_tsO (hX : Gd X own cc nL ret lv) {v dflt lo hi : Int} {offs : Array Int} {len tgt : Nat} (d : decode cc pc = .ok (.tableswitch dflt lo hi offs, len)) (h : w32 v < lo ∨ hi < w32 v) (ht : (pc : Int) + dflt = (tgt : Int)) (kk : V X k n Q tgt ls st M) : V X k n Q pc ls (vi v :: st) M := by
  intro H locs la hl' hP hD hS
  exact lv_tableOut hX.1 hX.2.1 d h ht (kk H locs la hl' hP hD hS)
end VCALLS
theorem lv_args_at : ∀ (vsz : List Value) (z : Nat), (∀ v ∈ vsz, v.category = 1) → ∀ (i : Nat) (v : Value), vsz[i]? = some v → (z + i, v) ∈ lv_args z vsz
  | [], _, _, i, v, h => by simp at h
  | w :: ws, z, hc, 0, v, h => by
    simp at h
    subst h
    rw [lv_args]
    exact List.mem_cons_self
  | w :: ws, z, hc, i + 1, v, h => by
    rw [lv_args, if_neg (by rw [hc w List.mem_cons_self]; decide)]
    have := lv_args_at ws (z + 1) (fun q hq => hc q (List.mem_cons_of_mem _ hq)) i v (by simpa using h)
    rw [show z + 1 + i = z + (i + 1) by omega] at this
    exact List.mem_cons_of_mem _ this
theorem lg_sl_len : ∀ (vsz : List Value), (∀ v ∈ vsz, v.category = 1) → (lg_sl vsz).length = vsz.length
  | [], _ => rfl
  | w :: ws, hc => by
    have h1 : w.category ≠ 2 := by rw [hc w List.mem_cons_self]; decide
    have h2 := lg_sl_len ws (fun q hq => hc q (List.mem_cons_of_mem _ hq))
    unfold lg_sl at h2 ⊢
    rw [List.flatMap_cons, if_neg h1, List.length_append, h2]
    simp [Nat.add_comm]
theorem LV.entry (av : List Value) (nL : Nat) (hc : ∀ v ∈ av, v.category = 1) (hn : av.length ≤ nL) : LV ((lg_sl av ++ List.replicate (nL - (lg_sl av).length) Slot.unset).toArray) nL (av.map some ++ List.replicate (nL - av.length) none) := by
  have h := lv_entry av (n := nL) (by rw [lg_sl_len av hc]; exact hn)
  refine ⟨h.1, h.2.1, fun i v hi => ?_⟩
  have h2 : av[i]? = some v := by
    by_cases e : i < (av.map some).length
    · rw [List.getElem?_append_left e, List.getElem?_map] at hi
      cases hq : av[i]? with
      | none => rw [hq] at hi; cases hi
      | some w => rw [hq] at hi; cases hi; rfl
    · rw [List.getElem?_append_right (Nat.le_of_not_lt e)] at hi
      obtain ⟨h3, h4⟩ := List.getElem?_eq_some_iff.mp hi
      rw [List.getElem_replicate] at h4
      cases h4
  have h3 := lv_args_at av 0 hc i v h2
  rw [Nat.zero_add] at h3
  exact ⟨h.2.2 _ h3, hc v (List.mem_of_getElem? h2)⟩
/-- a contract out of the walk of the method's body -/
theorem Cn_of {l : Launch} {G : Gx} {m : Mth} {lv np : Nat} {av : List Value} {M M1 : Mem} {rv : Option Value} (hG : GOK G) (hl : l.stackTraces = false) (hm : MK m np) (hc : ∀ v ∈ av, v.category = 1) (hn : av.length ≤ mN m) {own : String} (ho : own = (mY m).cls) {cc : ByteArray} (hcc : mC m = cc) {nL : Nat} (hnL : mN m = nL) {ret : Option FieldType} (hret : mR m = ret) {ls : List (Option Value)} (hls : av.map some ++ List.replicate (nL - av.length) none = ls)
    (body : ∀ X : Cxt, xG X = G → xl X = l → Gd X own cc nL ret lv → V X 0 0 (Qn X rv M1) 0 ls [] M) : Cn l G m lv av M rv M1 := by
  subst ho; subst hcc; subst hnL; subst hret; subst hls
  refine Met.ofW (cc := mC m) (maxL := mN m) (ret := mR m) hm.2.2.2.2 rfl ?_
  intro p e s md args below meth c s₁ B hml hv
  obtain ⟨rfl, hP, hK, hD, hsz, hST⟩ := hv
  have hts0 := atoms_spec (ws := wsM m) B.pre
  have hts : ∀ w ∈ WS, w.before av.toArray s = true := fun w hw => hts0 w (List.mem_cons_of_mem _ hw)
  have hb := body (gA G, G, p, l, e, (headSpec (wsM m) (rmk lv 0 0)).room, s, md, av.toArray, below, meth, c) rfl rfl ⟨B.exec, B.bytes, hml, findClass_of_methodNamed B.named, hts, B.notSynchronized, B.returns, hK, hG, hsz, Nat.le_refl _, Nat.le_refl _, hST, hl, fun _ h => h, hG.a0⟩
  rw [lg_entry_eq]
  exact hb s.heap [] _ (by rw [hml]; exact LV.entry av (mN m) hc hn) hP hD va_S.rf
