-- ===== methods that may throw =====
def exn (e : Nat) : String := if e = 1 then "java/lang/IllegalStateException" else if e = 2 then "java/lang/IllegalArgumentException" else "java/lang/IndexOutOfBoundsException"
def WP (G : Gx) (M : Mem) (U : State) : Prop := va_P (gDz G) vwCl (wl G M) U.heap ∧ va_D (gA G) (wl G M)
def Qxc (o : Nat ⊕ Option Value) (G : Gx) (A : Nat → Prop) (M1 : Mem) : Array Value → State → Outcome → State → Prop := fun a st oc t => ∃ rv, o = .inr rv ∧ Qo rv (Wd G M1) A a st oc t
def Xxc (o : Nat ⊕ Option Value) (G : Gx) (A : Nat → Prop) (M1 : Mem) : String → State → State → Prop := fun E st t => ∃ e, o = .inl e ∧ E = exn e ∧ WP G M1 t ∧ va_F A st t
/-- a contract at one memory: the outcome o (thrown, or answered), and the memory behind it -/
def Cx (l : Launch) (G : Gx) (m : Mth) (lv mc ms : Nat) (av : List Value) (M : Mem) (o : Nat ⊕ Option Value) (M1 : Mem) : Prop :=
  vx_Met l (mY m) (wsM m) (rmk lv mc ms) (va_Pc av (Wd G M)) (Qxc o G (gA G) M1) (Xxc o G (gA G) M1) mc ms (gA G)
def Qx (X : Cxt) (mc ms : Nat) (o : Nat ⊕ Option Value) (M1 : Mem) : State → Prop := vx_MQ (xb X) (Qxc o (xG X) (xA X) M1) (Xxc o (xG X) (xA X) M1) (xa X) (xs X) mc ms (xA X)
/-- no table of handlers; the room's cells and slots -/
def NX (X : Cxt) (mc ms : Nat) : Prop := (∀ x ∈ (xc X).exceptionTable.toList, False) ∧ (xR X).cells = mc ∧ (xR X).slots = ms
def nmsX : List String := ["java/lang/RuntimeException", "java/lang/Exception"]
def bthX (cls : String) : List Cond := [.castable cls cls, .declares ⟨"java/lang/RuntimeException", "<init>", "(Ljava/lang/String;)V"⟩, .declares ⟨"java/lang/Exception", "<init>", "(Ljava/lang/String;)V"⟩, .declares ⟨"java/lang/Throwable", "<init>", "(Ljava/lang/String;)V"⟩]
def THR (own : String) (ik ic : Nat) (cls : String) : Prop := Cond.classLink own ik cls ∈ WS ∧ Cond.initialized cls ∈ WS ∧ cls ∈ excT ∧ Bundle.fit cls = true ∧ (∀ n ∈ nmsX, Bundle.fit n = true) ∧ (∀ w ∈ (vx_atS own ic cls nmsX).filter goodWord, w ∈ WS) ∧
  (∀ w ∈ (vx_atS own ic cls nmsX).filter (fun w => !goodWord w), w ∈ bthX cls) ∧ ∀ w ∈ Cond.classLink own ik cls :: Cond.initialized cls :: vx_atS own ic cls nmsX, vx_ot w = true
section XGO2
variable {p : Program} {l : Launch} {e : Env} {R : Room} {s : State} {m : MethodId} {args : Array Value} {below : List Frame} {meth : Method} {c : Code} {H : Heap} {locs : List Loc} {k n mc ms : Nat} {Q : State → Prop}
theorem x_goR {A : Nat → Prop} {G : Gx} (hA : ∀ q, gA G q → A q) {M1 : Mem} {rv : Option Value} {pc : Nat} {la : Array Slot} {st0 rest : List Value} {a : Array Value} (hr : vx_Run p l e R s m args below meth c H locs k n mc ms (F0 m pc la st0) rest (Qxc (.inr rv) G (gA G) M1 a) (Xxc (.inr rv) G (gA G) M1) (gA G)) (hS : va_S A s.heap H locs)
    (kk : ∀ (H1 : Heap) (locs1 : List Loc), va_P (gDz G) vwCl (wl G M1) H1 → va_D A (wl G M1) → va_S A s.heap H1 locs1 → W p l e R s m args below meth c H1 locs1 (k + mc) (n + ms) Q (F0 m (pc + 3) la (rv.toList ++ rest))) : W p l e R s m args below meth c H locs k n Q (F0 m pc la st0) := by
  intro T hT X
  rcases hr T hT X with ⟨v, st₀, t, T', L, h0, X', hL, e1, e2, ⟨rv', er, ⟨hv, hB⟩, hF⟩, st⟩ | ⟨q, st₀, t, T', L, E, ce, h0, X', hL, e1, e2, ⟨u, hp, -⟩, hce, hcv, hcl, st⟩
  · cases er
    cases hv
    obtain ⟨k1, k2, k3⟩ := vx_keep h0 e1 hS (fun q _ h => hA q h) (fun q h => hA q h) hL hF
    obtain ⟨t2, a1, b1⟩ := kk T'.heap (locs ++ L) (by rw [e1]; exact hB.1) (D_mono hA hB.2.2.1) k3 T' rfl X'
    exact ⟨t2, st t2 a1, b1⟩
  · cases hp
theorem x_goT {A : Nat → Prop} {G : Gx} (hA : ∀ q, gA G q → A q) {M1 : Mem} {x : Nat} {pc : Nat} {la : Array Slot} {st0 rest : List Value} {a : Array Value} (hr : vx_Run p l e R s m args below meth c H locs k n mc ms (F0 m pc la st0) rest (Qxc (.inl x) G (gA G) M1 a) (Xxc (.inl x) G (gA G) M1) (gA G)) (hS : va_S A s.heap H locs)
    (kk : ∀ (H1 : Heap) (locs1 : List Loc) (q : Addr) (ce : Cell), va_P (gDz G) vwCl (wl G M1) H1 → va_D A (wl G M1) → va_S A s.heap H1 locs1 → H1[q]? = some ce → ce.vm = .none → s.vm.findClass (exn x) = some ce.cls → vx_W p l e R s m args below meth c H1 locs1 (k + mc) (n + ms) Q (F0 m pc la rest) q) : W p l e R s m args below meth c H locs k n Q (F0 m pc la st0) := by
  intro T hT X
  rcases hr T hT X with ⟨v, st₀, t, T', L, h0, X', hL, e1, e2, ⟨rv', er, -⟩, st⟩ | ⟨q, st₀, t, T', L, E, ce, h0, X', hL, e1, e2, ⟨u, hp, hE, hW, hF⟩, hce, hcv, hcl, st⟩
  · cases er
  · cases hp
    subst hE
    obtain ⟨k1, k2, k3⟩ := vx_keep h0 e1 hS (fun q _ h => hA q h) (fun q h => hA q h) hL hF
    obtain ⟨t2, a1, b1⟩ := kk T'.heap (locs ++ L) q ce (by rw [e1]; exact hW.1) (D_mono hA hW.2) k3 (by rw [e1]; exact hce) hcv hcl T' rfl X'
    exact ⟨t2, st.trans a1, b1⟩
end XGO2
section VTHROW
variable {X : Cxt} {k n mc ms : Nat} {Q : State → Prop} {pc : Nat} {ls ls' : List (Option Value)} {st : List Value} {M : Mem} {own : String} {cc : ByteArray} {nL lv : Nat} {ret : Option FieldType}
theorem x_thr_hx (hX : Gd X own cc nL ret lv) {x : Nat} {H : Heap} {locs : List Loc} (hP : va_P (gDz (xG X)) vwCl (wl (xG X) M) H) (hD : va_D (xA X) (wl (xG X) M)) (hS : va_S (xA X) (xs X).heap H locs) (t : State) (h2 : H.size ≤ t.heap.size) (h3 : ∀ q : Nat, q < H.size → t.heap[q]? = H[q]?) : Xxc (.inl x) (xG X) (xA X) M (exn x) (xs X) t :=
  ⟨x, rfl, rfl, ⟨hP.kept (fun k q hk => h3 _ (va_at.lt (hP k q hk))), D_self hD⟩, Nat.le_trans hS.1 h2, fun q hq hn => by rw [h3 q (Nat.lt_of_lt_of_le hq hS.1)]; exact hS.2.1 q hq hn⟩
theorem x_thr_hat (hX : Gd X own cc nL ret lv) {ik ic : Nat} {cls : String} (hw : THR own ik ic cls) : ∀ w ∈ vx_atS own ic cls nmsX, w.before (xa X) (xs X) = true := by
  have hT := hX.2.2.2.2.2.2.2.2.2.2.2.2.1.2.2.2.2.2.2
  refine vx_hat (fun w h => hX.2.2.2.2.1 _ (hw.2.2.2.2.2.1 w h)) hw.2.2.2.2.2.2.1 ?_
  exact vx_c (va_Nw.use rfl (hT.1 _ hw.2.2.1)) (vx_c (va_Nw.use rfl (hT.2.2.1 "java/lang/RuntimeException" (by decide +kernel))) (vx_c (va_Nw.use rfl (hT.2.2.1 "java/lang/Exception" (by decide +kernel))) (vx_c (va_Nw.use rfl (hT.2.2.1 "java/lang/Throwable" (by decide +kernel))) vx_n)))
theorem x_thrS (hX : Gd X own cc nL ret lv) (hN : NX X mc ms) {x ik is ic k' : Nat} {tx : String} (d0 : decode cc pc = .ok (.new ik, 3)) (d3 : decode cc (pc + 3) = .ok (.dup, 1)) (d4 : decode cc (pc + 4) = .ok (.ldc is, 2)) (d6 : decode cc (pc + 6) = .ok (.invokespecial ic, 3)) (d9 : decode cc (pc + 9) = .ok (.athrow, 1)) (hw : THR own ik ic (exn x)) (hk : strT[k']? = some (own, is, tx)) (hst : (st.map fun v => v.category).sum ≤ 8) (hkc : k + 1 ≤ mc) (hnc : n + 6 ≤ ms) : V X k n (Qx X mc ms (.inl x) M) pc ls st M := by
  intro H locs la hl' hP hD hS
  have h2 := hX.2.2.2.2.2.2.2.2.2.2.1
  have h3 := hX.2.2.2.2.2.2.2.2.2.2.2.1
  have hT := hX.2.2.2.2.2.2.2.2.2.2.2.2.1
  exact vx_throwS (names := nmsX) (A := gA0 (xG X)) hX.1 hX.2.1 (gl hX) hX.2.2.2.1 hw.2.2.2.1 hw.2.2.2.2.1 (hX.2.2.2.2.1 _ hw.1) (hX.2.2.2.2.1 _ hw.2.1) (hT.2.2.1 k' _ hk) (x_thr_hat hX hw) hw.2.2.2.2.2.2.2 hT.1 hT.2.1 (s0X hX hS) hl'.1 d0 d3 d4 d6 d9 (fun z hz => absurd (hN.1 z hz) id)
    (show 2 + 3 < (xR X).frames from Nat.lt_of_lt_of_le (by omega) h2) (show (st.map fun v => v.category).sum + (13 * (2 + 1) + 43) ≤ (xR X).locals from Nat.le_trans (by omega) h3) (by rw [hN.2.1]; exact hkc) (by rw [hN.2.2]; exact hnc) hX.2.2.2.2.2.1 (fun t _ h2 h3 => x_thr_hx hX hP hD hS t h2 h3) hS.2.2 hkc hnc
theorem x_thrW (hX : Gd X own cc nL ret lv) (hN : NX X mc ms) {x ik is ic k' : Nat} {tx : String} (d0 : decode cc pc = .ok (.new ik, 3)) (d3 : decode cc (pc + 3) = .ok (.dup, 1)) (d4 : decode cc (pc + 4) = .ok (.ldc_w is, 3)) (d7 : decode cc (pc + 7) = .ok (.invokespecial ic, 3)) (d10 : decode cc (pc + 10) = .ok (.athrow, 1)) (hw : THR own ik ic (exn x)) (hk : strT[k']? = some (own, is, tx)) (hst : (st.map fun v => v.category).sum ≤ 8) (hkc : k + 1 ≤ mc) (hnc : n + 6 ≤ ms) : V X k n (Qx X mc ms (.inl x) M) pc ls st M := by
  intro H locs la hl' hP hD hS
  have h2 := hX.2.2.2.2.2.2.2.2.2.2.1
  have h3 := hX.2.2.2.2.2.2.2.2.2.2.2.1
  have hT := hX.2.2.2.2.2.2.2.2.2.2.2.2.1
  exact vx_throwSW (names := nmsX) (A := gA0 (xG X)) hX.1 hX.2.1 (gl hX) hX.2.2.2.1 hw.2.2.2.1 hw.2.2.2.2.1 (hX.2.2.2.2.1 _ hw.1) (hX.2.2.2.2.1 _ hw.2.1) (hT.2.2.1 k' _ hk) (x_thr_hat hX hw) hw.2.2.2.2.2.2.2 hT.1 hT.2.1 (s0X hX hS) hl'.1 d0 d3 d4 d7 d10 (fun z hz => absurd (hN.1 z hz) id)
    (show 2 + 3 < (xR X).frames from Nat.lt_of_lt_of_le (by omega) h2) (show (st.map fun v => v.category).sum + (13 * (2 + 1) + 43) ≤ (xR X).locals from Nat.le_trans (by omega) h3) (by rw [hN.2.1]; exact hkc) (by rw [hN.2.2]; exact hnc) hX.2.2.2.2.2.1 (fun t _ h2 h3 => x_thr_hx hX hP hD hS t h2 h3) hS.2.2 hkc hnc
theorem x_runV (hX : Gd X own cc nL ret lv) {m : Mth} {lz idx np i t mc' ms' : Nat} {As rest : List Value} {o : Nat ⊕ Option Value} {M1 : Mem} {H : Heap} {locs : List Loc} {la : Array Slot} (hl' : LV la (xc X).maxLocals ls) (hP : va_P (gDz (xG X)) vwCl (wl (xG X) M) H) (hD : va_D (xA X) (wl (xG X) M)) (hS : va_S (xA X) (xs X).heap H locs) (d : decode cc pc = .ok (.invokevirtual idx, 3)) (hc : Cx (xl X) (xG X) m lz mc' ms' (vr (xG X) i :: As) M o M1) (hm : MK m np) (hv : MV m) (hl : Cond.methodLink own idx (mY m) ∈ WS) (hi : at_ (xG X) i (10 + t) 0) (ht : (vwCl[t]?).map (fun q => q.1) = some (mY m).cls) (hn : As.length = np) (hlv : Nat.ble (lz + 1) lv = true) (hst : st = As.reverse ++ vr (xG X) i :: rest) (hw : (rest.map fun v => v.category).sum ≤ 8) (hf : k + mc' ≤ (xR X).cells ∧ n + ms' ≤ (xR X).slots) :
    vx_Run (xp X) (xl X) (xe X) (xR X) (xs X) (xm X) (xa X) (xb X) (xt X) (xc X) H locs k n mc' ms' (F0 (xm X) pc la st) rest (Qxc o (xG X) (gA (xG X)) M1 (vr (xG X) i :: As).toArray) (Xxc o (xG X) (gA (xG X)) M1) (gA (xG X)) := by
  obtain ⟨q, hq⟩ := at_k hi
  cases hcl : vwCl[t]? with
  | none => rw [hcl] at ht; cases ht
  | some r =>
  rw [hcl] at ht
  have hr : r.1 = (mY m).cls := Option.some.inj ht
  refine vx_runV (As := As) (rest := rest) (C := (mY m).cls) (b := gad (xG X) i) (n := np) ⟨hX.1, hX.2.1, hX.2.2.1, hX.2.2.2.1, hX.2.2.2.2.1⟩ hc ⟨x_callB hX hm hl hlv, hX.2.2.2.2.1 _ hv.1, hX.2.2.2.2.1 _ hv.2⟩ ⟨Wd.blind, ?_, fun U hU hW => ⟨rfl, x_wd hX hP hD hS hU hW⟩⟩ rfl hn (hl'.1.trans hX.2.2.1) hst (lv_room hw) d hf
  rw [← hr]
  exact va_recv hX.2.2.2.2.2.2.2.1 hP hcl (q0 := q) (by rw [wl_at M hq, entO hi.2])
theorem x_runS (hX : Gd X own cc nL ret lv) {m : Mth} {lz idx np mc' ms' : Nat} {As rest : List Value} {o : Nat ⊕ Option Value} {M1 : Mem} {H : Heap} {locs : List Loc} {la : Array Slot} (hl' : LV la (xc X).maxLocals ls) (hP : va_P (gDz (xG X)) vwCl (wl (xG X) M) H) (hD : va_D (xA X) (wl (xG X) M)) (hS : va_S (xA X) (xs X).heap H locs) (d : decode cc pc = .ok (.invokestatic idx, 3)) (hc : Cx (xl X) (xG X) m lz mc' ms' As M o M1) (hm : MK m np) (hv : MS m) (hl : Cond.methodLink own idx (mY m) ∈ WS) (hn : As.length = np) (hlv : Nat.ble (lz + 1) lv = true) (hst : st = As.reverse ++ rest) (hw : (rest.map fun v => v.category).sum ≤ 8) (hf : k + mc' ≤ (xR X).cells ∧ n + ms' ≤ (xR X).slots) :
    vx_Run (xp X) (xl X) (xe X) (xR X) (xs X) (xm X) (xa X) (xb X) (xt X) (xc X) H locs k n mc' ms' (F0 (xm X) pc la st) rest (Qxc o (xG X) (gA (xG X)) M1 As.toArray) (Xxc o (xG X) (gA (xG X)) M1) (gA (xG X)) :=
  vx_runS (As := As) (rest := rest) (n := np) ⟨hX.1, hX.2.1, hX.2.2.1, hX.2.2.2.1, hX.2.2.2.2.1⟩ hc ⟨x_callB hX hm hl hlv, hX.2.2.2.2.1 _ hv⟩ ⟨Wd.blind, fun U hU hW => ⟨rfl, x_wd hX hP hD hS hU hW⟩⟩ rfl hn (hl'.1.trans hX.2.2.1) hst (lv_room hw) d hf
theorem x_out (hX : Gd X own cc nL ret lv) (hN : NX X mc ms) {x : Nat} {M1 : Mem} {H1 : Heap} {locs1 : List Loc} {la : Array Slot} {rest : List Value} {q : Addr} {ce : Cell} {a b : Nat} (hP : va_P (gDz (xG X)) vwCl (wl (xG X) M1) H1) (hD : va_D (xA X) (wl (xG X) M1)) (hS : va_S (xA X) (xs X).heap H1 locs1) (h1 : H1[q]? = some ce) (h2 : ce.vm = .none) (h3 : (xs X).vm.findClass (exn x) = some ce.cls) (hk : a ≤ mc) (hn : b ≤ ms) : vx_W (xp X) (xl X) (xe X) (xR X) (xs X) (xm X) (xa X) (xb X) (xt X) (xc X) H1 locs1 a b (Qx X mc ms (.inl x) M1) (F0 (xm X) pc la rest) q :=
  vx_out (fun z hz => absurd (hN.1 z hz) id) hX.2.2.2.2.2.1 h1 h2 h3 (fun t ht hA => ⟨x, rfl, rfl, ⟨by rw [ht]; exact hP, D_self hD⟩, hS.F ht⟩) hS.2.2 hk hn
theorem x_xVr (hX : Gd X own cc nL ret lv) {m : Mth} {lz idx np i t mc' ms' : Nat} {As rest : List Value} {rv : Option Value} {M1 : Mem} (d : decode cc pc = .ok (.invokevirtual idx, 3)) (hc : Cx (xl X) (xG X) m lz mc' ms' (vr (xG X) i :: As) M (.inr rv) M1) (hm : MK m np) (hv : MV m) (hl : Cond.methodLink own idx (mY m) ∈ WS) (hi : at_ (xG X) i (10 + t) 0) (ht : (vwCl[t]?).map (fun q => q.1) = some (mY m).cls) (hn : As.length = np) (hlv : Nat.ble (lz + 1) lv = true) (hst : st = As.reverse ++ vr (xG X) i :: rest) (hw : (rest.map fun v => v.category).sum ≤ 8) (hf : k + mc' ≤ (xR X).cells ∧ n + ms' ≤ (xR X).slots) (kk : V X (k + mc') (n + ms') Q (pc + 3) ls (rv.toList ++ rest) M1) : V X k n Q pc ls st M := by
  intro H locs la hl' hP hD hS
  exact x_goR hX.2.2.2.2.2.2.2.2.2.2.2.2.2.2.1 (x_runV hX hl' hP hD hS d hc hm hv hl hi ht hn hlv hst hw hf) hS (fun H1 locs1 hP1 hD1 hS1 => kk H1 locs1 la hl' hP1 hD1 hS1)
theorem x_xVt (hX : Gd X own cc nL ret lv) (hN : NX X mc ms) {m : Mth} {lz idx np i t mc' ms' : Nat} {As rest : List Value} {x : Nat} {M1 : Mem} (d : decode cc pc = .ok (.invokevirtual idx, 3)) (hc : Cx (xl X) (xG X) m lz mc' ms' (vr (xG X) i :: As) M (.inl x) M1) (hm : MK m np) (hv : MV m) (hl : Cond.methodLink own idx (mY m) ∈ WS) (hi : at_ (xG X) i (10 + t) 0) (ht : (vwCl[t]?).map (fun q => q.1) = some (mY m).cls) (hn : As.length = np) (hlv : Nat.ble (lz + 1) lv = true) (hst : st = As.reverse ++ vr (xG X) i :: rest) (hw : (rest.map fun v => v.category).sum ≤ 8) (hk : k + mc' ≤ mc) (hn2 : n + ms' ≤ ms) : V X k n (Qx X mc ms (.inl x) M1) pc ls st M := by
  intro H locs la hl' hP hD hS
  exact x_goT hX.2.2.2.2.2.2.2.2.2.2.2.2.2.2.1 (x_runV hX hl' hP hD hS d hc hm hv hl hi ht hn hlv hst hw ⟨by rw [hN.2.1]; exact hk, by rw [hN.2.2]; exact hn2⟩) hS (fun H1 locs1 q ce hP1 hD1 hS1 h1 h2 h3 => x_out hX hN hP1 hD1 hS1 h1 h2 h3 hk hn2)
theorem x_xSr (hX : Gd X own cc nL ret lv) {m : Mth} {lz idx np mc' ms' : Nat} {As rest : List Value} {rv : Option Value} {M1 : Mem} (d : decode cc pc = .ok (.invokestatic idx, 3)) (hc : Cx (xl X) (xG X) m lz mc' ms' As M (.inr rv) M1) (hm : MK m np) (hv : MS m) (hl : Cond.methodLink own idx (mY m) ∈ WS) (hn : As.length = np) (hlv : Nat.ble (lz + 1) lv = true) (hst : st = As.reverse ++ rest) (hw : (rest.map fun v => v.category).sum ≤ 8) (hf : k + mc' ≤ (xR X).cells ∧ n + ms' ≤ (xR X).slots) (kk : V X (k + mc') (n + ms') Q (pc + 3) ls (rv.toList ++ rest) M1) : V X k n Q pc ls st M := by
  intro H locs la hl' hP hD hS
  exact x_goR hX.2.2.2.2.2.2.2.2.2.2.2.2.2.2.1 (x_runS hX hl' hP hD hS d hc hm hv hl hn hlv hst hw hf) hS (fun H1 locs1 hP1 hD1 hS1 => kk H1 locs1 la hl' hP1 hD1 hS1)
theorem x_xSt (hX : Gd X own cc nL ret lv) (hN : NX X mc ms) {m : Mth} {lz idx np mc' ms' : Nat} {As rest : List Value} {x : Nat} {M1 : Mem} (d : decode cc pc = .ok (.invokestatic idx, 3)) (hc : Cx (xl X) (xG X) m lz mc' ms' As M (.inl x) M1) (hm : MK m np) (hv : MS m) (hl : Cond.methodLink own idx (mY m) ∈ WS) (hn : As.length = np) (hlv : Nat.ble (lz + 1) lv = true) (hst : st = As.reverse ++ rest) (hw : (rest.map fun v => v.category).sum ≤ 8) (hk : k + mc' ≤ mc) (hn2 : n + ms' ≤ ms) : V X k n (Qx X mc ms (.inl x) M1) pc ls st M := by
  intro H locs la hl' hP hD hS
  exact x_goT hX.2.2.2.2.2.2.2.2.2.2.2.2.2.2.1 (x_runS hX hl' hP hD hS d hc hm hv hl hn hlv hst hw ⟨by rw [hN.2.1]; exact hk, by rw [hN.2.2]; exact hn2⟩) hS (fun H1 locs1 q ce hP1 hD1 hS1 h1 h2 h3 => x_out hX hN hP1 hD1 hS1 h1 h2 h3 hk hn2)
theorem x_iretX (hX : Gd X own cc nL (some .int) lv) {v : Int} (d : decode cc pc = .ok (.ireturn, 1)) (hk : k ≤ mc) (hn : n ≤ ms) : V X k n (Qx X mc ms (.inr (some (vi v))) M) pc ls [vi v] M := by
  intro H locs la hl' hP hD hS
  refine W.widen (k := mc) (n := ms) hk hn (vx_ret ?_)
  exact W.iret hX.1 hX.2.1 hX.2.2.2.2.2.2.1 (fun t ht hW => ⟨_, rfl, ⟨rfl, x_wd hX hP hD hS ht hW⟩, hS.F ht⟩) hS.2.2 d hX.2.2.2.2.2.1
theorem x_vretX (hX : Gd X own cc nL none lv) (d : decode cc pc = .ok (.return_, 1)) (hk : k ≤ mc) (hn : n ≤ ms) : V X k n (Qx X mc ms (.inr none) M) pc ls [] M := by
  intro H locs la hl' hP hD hS
  refine W.widen (k := mc) (n := ms) hk hn (vx_ret ?_)
  exact W.vret hX.1 hX.2.1 hX.2.2.2.2.2.2.1 (fun t ht hW => ⟨_, rfl, ⟨rfl, x_wd hX hP hD hS ht hW⟩, hS.F ht⟩) hS.2.2 d hX.2.2.2.2.2.1
end VTHROW
theorem Cx_of2 {l : Launch} {G : Gx} {m : Mth} {lv np mc ms : Nat} {av : List Value} {M M1 : Mem} {o : Nat ⊕ Option Value} (hG : GOK G) (hl : l.stackTraces = false) (hm : MK m np) (hc : av.all (fun v => v.category == 1) = true) (hn : av.length ≤ mN m) {own : String} (ho : own = (mY m).cls) {cc : ByteArray} (hcc : mC m = cc) {nL : Nat} (hnL : mN m = nL) {ret : Option FieldType} (hret : mR m = ret) {ls : List (Option Value)} (hls : av.map some ++ List.replicate (nL - av.length) none = ls)
    (body : ∀ X : Cxt, xG X = G → xl X = l → Gd X own cc nL ret lv → NX X mc ms → V X 0 0 (Qx X mc ms o M1) 0 ls [] M) : Cx l G m lv mc ms av M o M1 := by
  subst ho; subst hcc; subst hnL; subst hret; subst hls
  have hc' : ∀ v ∈ av, v.category = 1 := fun v hv => by have := List.all_eq_true.mp hc v hv; simpa using this
  refine vx_ofW (cc := mC m) (maxL := mN m) (ret := mR m) hm.2.2.2.2 rfl ?_
  intro p e s md args below meth c s₁ B hml ht hv
  obtain ⟨rfl, hP, hK, hD, hsz, hST⟩ := hv
  have hts0 := atoms_spec (ws := wsM m) B.pre
  have hts : ∀ w ∈ WS, w.before av.toArray s = true := fun w hw => hts0 w (List.mem_cons_of_mem _ hw)
  have hb := body (gA G, G, p, l, e, (headSpec (wsM m) (rmk lv mc ms)).room, s, md, av.toArray, below, meth, c) rfl rfl ⟨B.exec, B.bytes, hml, findClass_of_methodNamed B.named, hts, B.notSynchronized, B.returns, hK, hG, hsz, Nat.le_refl _, Nat.le_refl _, hST, hl, fun _ h => h, hG.a0⟩ ⟨ht, rfl, rfl⟩
  rw [lg_entry_eq]
  exact hb s.heap [] _ (by rw [hml]; exact LV.entry av (mN m) hc' hn) hP hD va_S.rf
