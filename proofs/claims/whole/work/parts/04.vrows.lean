-- ===== rows of the judgement V: an instruction a row =====
def lvl (ls : List (Option Value)) : List (Nat × Value) := (List.range ls.length).filterMap (fun i => (ls.getD i none).map (fun v => (i, v)))
theorem lvl_mem {ls : List (Option Value)} {i : Nat} {v : Value} : (i, v) ∈ lvl ls ↔ ls[i]? = some (some v) := by
  unfold lvl
  rw [List.mem_filterMap]
  constructor
  · rintro ⟨j, hj, h⟩
    rw [List.getD_eq_getElem?_getD] at h
    cases hq : ls[j]? with
    | none => rw [hq] at h; cases h
    | some o =>
      rw [hq] at h
      cases o with
      | none => cases h
      | some w => cases h; exact hq
  · intro h
    refine ⟨i, List.mem_range.mpr (List.getElem?_eq_some_iff.mp h).1, ?_⟩
    rw [List.getD_eq_getElem?_getD, h]
    rfl
theorem LV.at {la : Array Slot} {nL : Nat} {ls : List (Option Value)} (h : LV la nL ls) {i : Nat} {v : Value} (hi : ls[i]? = some (some v)) : la[i]? = some (.val v) := (h.2.2 i v hi).1
theorem LV.has {la : Array Slot} {nL : Nat} {ls : List (Option Value)} (h : LV la nL ls) : lv_has la nL (lvl ls) := ⟨h.1, h.2.1, fun q hq => (h.2.2 q.1 q.2 (lvl_mem.mp hq)).1⟩
theorem LV.put {la la' : Array Slot} {nL : Nat} {ls : List (Option Value)} {i : Nat} {x : Value} (h : LV la nL ls) (h2 : lv_has la' nL ((i, x) :: (lvl ls).filter (fun q => !(q.1 == i) && !(q.1 + 1 == i && q.2.category == 2)))) (hc : x.category = 1) : LV la' nL (ls.set i (some x)) := by
  refine ⟨h2.1, h2.2.1, fun j v hj => ?_⟩
  rw [List.getElem?_set] at hj
  by_cases e : i = j
  · subst e
    rw [if_pos rfl] at hj
    by_cases e2 : i < ls.length
    · rw [if_pos e2] at hj
      cases hj
      exact ⟨h2.2.2 _ List.mem_cons_self, hc⟩
    · rw [if_neg e2] at hj; cases hj
  · rw [if_neg e] at hj
    have h3 := h.2.2 j v hj
    refine ⟨h2.2.2 (j, v) (List.mem_cons_of_mem _ (List.mem_filter.mpr ⟨lvl_mem.mpr hj, ?_⟩)), h3.2⟩
    have e4 : ¬ j = i := fun q => e q.symm
    simp [h3.2, e4]
theorem LV.weak {la : Array Slot} {nL : Nat} {ls ls' : List (Option Value)} (h : LV la nL ls) (hs : ∀ (i : Nat) (v : Value), ls'[i]? = some (some v) → ls[i]? = some (some v)) : LV la nL ls' := ⟨h.1, h.2.1, fun i v hi => h.2.2 i v (hs i v hi)⟩
def msk : List Bool → List (Option Value) → List (Option Value)
  | [], _ => []
  | _ :: _, [] => []
  | b :: bs, v :: vsz => (if b then v else none) :: msk bs vsz
theorem msk_at : ∀ (bs : List Bool) (ls : List (Option Value)) (i : Nat) (v : Value), (msk bs ls)[i]? = some (some v) → ls[i]? = some (some v)
  | [], _, i, v, h => by simp [msk] at h
  | _ :: _, [], i, v, h => by simp [msk] at h
  | b :: bs, w :: ws, 0, v, h => by
    cases b
    · simp [msk] at h
    · simpa [msk] using h
  | b :: bs, w :: ws, i + 1, v, h => by
    simp only [msk, List.getElem?_cons_succ] at h ⊢
    exact msk_at bs ws i v h
def Mth : Type := MethodName × ByteArray × Nat × Option FieldType
def mY (m : Mth) : MethodName := m.1
def mC (m : Mth) : ByteArray := m.2.1
def mN (m : Mth) : Nat := m.2.2.1
def mR (m : Mth) : Option FieldType := m.2.2.2
def Qo (rv : Option Value) (B : State → Prop) (A : Nat → Prop) : Array Value → State → Outcome → State → Prop := fun _ st oc t => (oc = .returned rv ∧ B t) ∧ va_F A st t
def wsM (m : Mth) : List Cond := Cond.code (mY m) (mC m) (mN m) (mR m) :: WS
/-- a method's contract at one memory: it makes nothing, answers rv, leaves M1 -/
def Cn (l : Launch) (G : Gx) (m : Mth) (lv : Nat) (av : List Value) (M : Mem) (rv : Option Value) (M1 : Mem) : Prop :=
  Met l (mY m) (wsM m) (rmk lv 0 0) (va_Pc av (Wd G M)) (Qo rv (Wd G M1) (gA G)) 0 0 (gA G)
def Qn (X : Cxt) (rv : Option Value) (M1 : Mem) : State → Prop := MQ (xb X) (Qo rv (Wd (xG X) M1) (xA X)) (xa X) (xs X) 0 0 (xA X)
theorem va_AOA.moved {t : FieldType} {u U : State} (hvm : u.vm.Alike U.vm) (h : va_AOA t u) : va_AOA t U := by
  obtain ⟨comp, c, k, h1, h2, h3, h4, h5⟩ := arrayOverA_spec h
  obtain ⟨k', hk', he⟩ := hvm.2.2 _ _ h3
  have hi : (U.vm.classes.findIdx? fun (x : Class) => match x.kind with | .array component _ => component == comp | _ => false) = some c := by
    refine ((va_idx_bare U.vm comp).symm.trans ?_).trans ((va_idx_bare u.vm comp).trans h2)
    first | rw [hvm.bare_eq] | rw [← hvm.bare_eq]
  have hkind : k'.kind = .array comp (.array t) := by rw [he]; exact h4
  have f1 : U.vm.findClass (FieldType.array t).toString = some comp := by rw [hvm.findClass]; exact h1
  have f2 : U.vm.findClass ("[" ++ (FieldType.array t).toString) = some c := by rw [hvm.findClass]; exact h5
  unfold va_AOA Cond.before Cond.holds
  simp only [Cond.value]
  rw [f1, Option.bind_some]
  refine (congrArg (fun o : Option Nat => (o.bind (fun c => (U.vm.classes[c]?).map fun (k : Class) => match k.kind with | .array _ ty => decide (ty = FieldType.array t) && decide (U.vm.findClass ("[" ++ (FieldType.array t).toString) = some c) | _ => false) == some true)) hi).trans ?_
  simp [hk', hkind, f2]
theorem TF.warm {s t : State} (h : TF s) (hW : s.WarmedH t.vm) : TF t := by
  obtain ⟨a, b, c, d, e, f⟩ := h
  exact ⟨fun E hE => va_Nw.warmC hW (a E hE), fun q hq => va_Nw.warmM hW (b q hq), fun C hC => va_Nw.warmD hW (c C hC), fun E hE F hF hn => va_Nc.moved hW.alike (d E hE F hF hn), va_AO.moved hW.alike e, va_AOA.moved hW.alike f⟩
theorem S_mono {A B : Nat → Prop} {H0 H : Heap} {locs : List Loc} (h : ∀ q, A q → B q) (hS : va_S A H0 H locs) : va_S B H0 H locs := ⟨hS.1, fun q h1 h2 => hS.2.1 q h1 (fun z => h2 (h q z)), fun z hz => h _ (hS.2.2 z hz)⟩
theorem D_self {G : Gx} {M : Mem} {A : Nat → Prop} (h : va_D A (wl G M)) : va_D (gA G) (wl G M) := ⟨h.1, fun k q hk => by
  unfold wl at hk
  rw [List.getElem?_map] at hk
  cases hq : (gL G)[k]? with
  | none => rw [hq] at hk; cases hk
  | some i => rw [hq] at hk; cases hk; exact ⟨i, List.mem_of_getElem? hq, rfl⟩⟩
theorem D_mono {A B : Nat → Prop} {ws : va_W} (h : ∀ q, A q → B q) (hD : va_D A ws) : va_D B ws := ⟨hD.1, fun k q hk => h _ (hD.2 k q hk)⟩
theorem GOK.a0 {G : Gx} (hG : GOK G) : ∀ q, gA G q → gA0 G q := fun q ⟨i, hi, e⟩ => by rw [← e]; exact hG.2.2.2 i hi
theorem STf.step {G : Gx} {s t : State} {H : Heap} {locs : List Loc} (h : STf G s) (hW : s.WarmedH t.vm) (hS : va_S (gA0 G) s.heap H locs) (ht : t.heap = H) : STf G t := by
  obtain ⟨a, b, c, d, e, f, g⟩ := h
  have hq : ∀ q : Nat, q < s.heap.size → ¬ gA0 G q → t.heap[q]? = s.heap[q]? := by rw [ht]; exact hS.2.1
  exact ⟨vx_Zq.moved hW.alike (a.kept hq), vx_Zq.moved hW.alike (b.kept hq), fun k q hk => vk_R.warm hW (c k q hk), vk_S.moved hW.alike (d.kept hq), va_Z.moved hW.alike (e.kept hq), va_Zq.moved hW.alike (f.kept hq), g.warm hW⟩
theorem STf.same {G : Gx} {s t : State} (h : STf G s) (hv : t.vm = s.vm) (hh : t.heap = s.heap) : STf G t :=
  h.step (by rw [hv]; exact State.WarmedH.refl s) va_S.rf hh
theorem Wd.same {G : Gx} {M : Mem} {s t : State} (h : Wd G M s) (hv : t.vm = s.vm) (hh : t.heap = s.heap) : Wd G M t := by
  obtain ⟨a, b, c, d, e⟩ := h
  refine ⟨by rw [hh]; exact a, va_K.moved (by rw [hv]; exact Vm.Alike.refl _) b, c, by rw [hh]; exact d, e.same hv hh⟩
theorem Wd.blind {G : Gx} {M : Mem} {av : List Value} : FrameBlind (va_Pc av (Wd G M)) := fun a U g mk q => ⟨q.1, q.2.same rfl rfl⟩
section VROWS
variable {X : Cxt} {k n : Nat} {Q : State → Prop} {pc : Nat} {ls ls' : List (Option Value)} {st : List Value} {M : Mem} {own : String} {cc : ByteArray} {nL lv : Nat} {ret : Option FieldType}
theorem x_weak (bs : List Bool) (h : msk bs ls = ls') (kk : V X k n Q pc ls' st M) : V X k n Q pc ls st M := by
  intro H locs la hl hP hD hS
  subst h
  exact kk H locs la (hl.weak (msk_at bs ls)) hP hD hS
theorem x_iload (hX : Gd X own cc nL ret lv) {i : Nat} {x : Int} (d : decode cc pc = .ok (.iload i, 2)) (hi : ls[i]? = some (some (vi x))) (kk : V X k n Q (pc + 2) ls (vi x :: st) M) : V X k n Q pc ls st M :=
  fun H locs la hl hP hD hS => lv_iload hX.1 hX.2.1 d (hl.at hi) (kk H locs la hl hP hD hS)
theorem x_iloadn (hX : Gd X own cc nL ret lv) {j : Fin 4} {x : Int} (d : decode cc pc = .ok (.iload_n j, 1)) (hi : ls[(j : Nat)]? = some (some (vi x))) (kk : V X k n Q (pc + 1) ls (vi x :: st) M) : V X k n Q pc ls st M :=
  fun H locs la hl hP hD hS => lv_iload_n hX.1 hX.2.1 d rfl (hl.at hi) (kk H locs la hl hP hD hS)
theorem x_aload (hX : Gd X own cc nL ret lv) {i a : Nat} (d : decode cc pc = .ok (.aload i, 2)) (hi : ls[i]? = some (some (vr (xG X) a))) (kk : V X k n Q (pc + 2) ls (vr (xG X) a :: st) M) : V X k n Q pc ls st M :=
  fun H locs la hl hP hD hS => lv_aload hX.1 hX.2.1 d (hl.at hi) (kk H locs la hl hP hD hS)
theorem x_aloadn (hX : Gd X own cc nL ret lv) {j : Fin 4} {a : Nat} (d : decode cc pc = .ok (.aload_n j, 1)) (hi : ls[(j : Nat)]? = some (some (vr (xG X) a))) (kk : V X k n Q (pc + 1) ls (vr (xG X) a :: st) M) : V X k n Q pc ls st M :=
  fun H locs la hl hP hD hS => lv_aload_n hX.1 hX.2.1 d rfl (hl.at hi) (kk H locs la hl hP hD hS)
theorem x_istore (hX : Gd X own cc nL ret lv) {i : Nat} {x e : Int} (d : decode cc pc = .ok (.istore i, 2)) (hn : Nat.blt i nL = true) (he : x = e) (hs : ls.set i (some (vi x)) = ls') (kk : V X k n Q (pc + 2) ls' st M) : V X k n Q pc ls (vi e :: st) M := by
  subst he; subst hs
  exact fun H locs la hl hP hD hS => lv_istore hX.1 hX.2.1 d hl.has (by rw [hX.2.2.1]; exact Nat.le_of_ble_eq_true hn) rfl (fun la' h' => kk H locs la' (hl.put h' rfl) hP hD hS)
theorem x_istoren (hX : Gd X own cc nL ret lv) {j : Fin 4} {x e : Int} (d : decode cc pc = .ok (.istore_n j, 1)) (hn : Nat.blt (j : Nat) nL = true) (he : x = e) (hs : ls.set (j : Nat) (some (vi x)) = ls') (kk : V X k n Q (pc + 1) ls' st M) : V X k n Q pc ls (vi e :: st) M := by
  subst he; subst hs
  exact fun H locs la hl hP hD hS => lv_istore_n hX.1 hX.2.1 d rfl hl.has (by rw [hX.2.2.1]; exact Nat.le_of_ble_eq_true hn) rfl (fun la' h' => kk H locs la' (hl.put h' rfl) hP hD hS)
theorem x_astore (hX : Gd X own cc nL ret lv) {i a : Nat} (d : decode cc pc = .ok (.astore i, 2)) (hn : Nat.blt i nL = true) (hs : ls.set i (some (vr (xG X) a)) = ls') (kk : V X k n Q (pc + 2) ls' st M) : V X k n Q pc ls (vr (xG X) a :: st) M := by
  subst hs
  exact fun H locs la hl hP hD hS => lv_astore hX.1 hX.2.1 d hl.has (by rw [hX.2.2.1]; exact Nat.le_of_ble_eq_true hn) rfl (fun la' h' => kk H locs la' (hl.put h' rfl) hP hD hS)
theorem x_astoren (hX : Gd X own cc nL ret lv) {j : Fin 4} {a : Nat} (d : decode cc pc = .ok (.astore_n j, 1)) (hn : Nat.blt (j : Nat) nL = true) (hs : ls.set (j : Nat) (some (vr (xG X) a)) = ls') (kk : V X k n Q (pc + 1) ls' st M) : V X k n Q pc ls (vr (xG X) a :: st) M := by
  subst hs
  exact fun H locs la hl hP hD hS => lv_astore_n hX.1 hX.2.1 d rfl hl.has (by rw [hX.2.2.1]; exact Nat.le_of_ble_eq_true hn) rfl (fun la' h' => kk H locs la' (hl.put h' rfl) hP hD hS)
theorem x_iinc (hX : Gd X own cc nL ret lv) {i : Nat} {x e c : Int} (d : decode cc pc = .ok (.iinc i c, 3)) (hn : Nat.blt i nL = true) (hi : ls[i]? = some (some (vi e))) (he : x = e + c) (hs : ls.set i (some (vi x)) = ls') (kk : V X k n Q (pc + 3) ls' st M) : V X k n Q pc ls st M := by
  subst he; subst hs
  intro H locs la hl hP hD hS
  obtain ⟨q, hq⟩ := List.getElem?_of_mem (lvl_mem.mpr hi)
  refine lv_iinc hX.1 hX.2.1 d hl.has (k := q) hq (v := Int32.ofInt (e + c)) (Int32.ofInt_add e c).symm (by rw [hX.2.2.1]; exact Nat.le_of_ble_eq_true hn) rfl (fun la' h' => kk H locs la' (hl.put h' rfl) hP hD hS)
theorem x_iconst (hX : Gd X own cc nL ret lv) {c : Int} (d : decode cc pc = .ok (.iconst c, 1)) (kk : V X k n Q (pc + 1) ls (vi c :: st) M) : V X k n Q pc ls st M :=
  fun H locs la hl hP hD hS => lv_iconst hX.1 hX.2.1 d rfl (kk H locs la hl hP hD hS)
theorem x_bipush (hX : Gd X own cc nL ret lv) {c : Int} (d : decode cc pc = .ok (.bipush c, 2)) (hv : (Int8.ofInt c).toInt32 = Int32.ofInt c) (kk : V X k n Q (pc + 2) ls (vi c :: st) M) : V X k n Q pc ls st M :=
  fun H locs la hl hP hD hS => lv_bipush hX.1 hX.2.1 d hv (kk H locs la hl hP hD hS)
theorem x_sipush (hX : Gd X own cc nL ret lv) {c : Int} (d : decode cc pc = .ok (.sipush c, 3)) (hv : (Int16.ofInt c).toInt32 = Int32.ofInt c) (kk : V X k n Q (pc + 3) ls (vi c :: st) M) : V X k n Q pc ls st M :=
  fun H locs la hl hP hD hS => lv_sipush hX.1 hX.2.1 d hv (kk H locs la hl hP hD hS)
theorem x_ldc (hX : Gd X own cc nL ret lv) {idx : Nat} {c : Int} (d : decode cc pc = .ok (.ldc idx, 2)) (hw : Cond.constant own idx (Int32.ofInt c) ∈ WS) (kk : V X k n Q (pc + 2) ls (vi c :: st) M) : V X k n Q pc ls st M :=
  fun H locs la hl hP hD hS => lv_ldc hX.1 hX.2.1 hX.2.2.2.1 (hX.2.2.2.2.1 _ hw) d (kk H locs la hl hP hD hS)
theorem x_ldcw (hX : Gd X own cc nL ret lv) {idx : Nat} {c : Int} (d : decode cc pc = .ok (.ldc_w idx, 3)) (hw : Cond.constant own idx (Int32.ofInt c) ∈ WS) (kk : V X k n Q (pc + 3) ls (vi c :: st) M) : V X k n Q pc ls st M :=
  fun H locs la hl hP hD hS => lv_ldcw hX.1 hX.2.1 hX.2.2.2.1 (hX.2.2.2.2.1 _ hw) d (kk H locs la hl hP hD hS)
theorem x_iadd (hX : Gd X own cc nL ret lv) {a b : Int} (d : decode cc pc = .ok (.iadd, 1)) (kk : V X k n Q (pc + 1) ls (vi (a + b) :: st) M) : V X k n Q pc ls (vi b :: vi a :: st) M := by
  intro H locs la hl hP hD hS
  refine lv_iadd hX.1 hX.2.1 d ?_
  rw [← Int32.ofInt_add]
  exact kk H locs la hl hP hD hS
theorem x_isub (hX : Gd X own cc nL ret lv) {a b : Int} (d : decode cc pc = .ok (.isub, 1)) (kk : V X k n Q (pc + 1) ls (vi (a - b) :: st) M) : V X k n Q pc ls (vi b :: vi a :: st) M := by
  intro H locs la hl hP hD hS
  refine lv_isub hX.1 hX.2.1 d ?_
  rw [← Int32.ofInt_sub]
  exact kk H locs la hl hP hD hS
theorem x_imul (hX : Gd X own cc nL ret lv) {a b : Int} (d : decode cc pc = .ok (.imul, 1)) (kk : V X k n Q (pc + 1) ls (vi (a * b) :: st) M) : V X k n Q pc ls (vi b :: vi a :: st) M := by
  intro H locs la hl hP hD hS
  refine lv_imul hX.1 hX.2.1 d ?_
  rw [← Int32.ofInt_mul]
  exact kk H locs la hl hP hD hS
theorem x_ineg (hX : Gd X own cc nL ret lv) {a : Int} (d : decode cc pc = .ok (.ineg, 1)) (kk : V X k n Q (pc + 1) ls (vi (-a) :: st) M) : V X k n Q pc ls (vi a :: st) M := by
  intro H locs la hl hP hD hS
  refine lv_ineg hX.1 hX.2.1 d ?_
  rw [← Int32.ofInt_neg]
  exact kk H locs la hl hP hD hS
theorem x_idiv (hX : Gd X own cc nL ret lv) {a b : Int} (d : decode cc pc = .ok (.idiv, 1)) (h0 : ¬ w32 b = 0) (kk : V X k n Q (pc + 1) ls (vi (i_div a b) :: st) M) : V X k n Q pc ls (vi b :: vi a :: st) M := by
  intro H locs la hl hP hD hS
  refine lv_idiv hX.1 hX.2.1 d (fun q => h0 (by unfold w32; rw [q]; rfl)) ?_
  rw [← vi_toInt]
  exact kk H locs la hl hP hD hS
theorem x_irem (hX : Gd X own cc nL ret lv) {a b : Int} (d : decode cc pc = .ok (.irem, 1)) (h0 : ¬ w32 b = 0) (kk : V X k n Q (pc + 1) ls (vi (i_rem a b) :: st) M) : V X k n Q pc ls (vi b :: vi a :: st) M := by
  intro H locs la hl hP hD hS
  refine lv_irem hX.1 hX.2.1 d (fun q => h0 (by unfold w32; rw [q]; rfl)) ?_
  rw [← vi_toInt]
  exact kk H locs la hl hP hD hS
theorem x_iand (hX : Gd X own cc nL ret lv) {a b : Int} (d : decode cc pc = .ok (.iand, 1)) (kk : V X k n Q (pc + 1) ls (vi (i_and a b) :: st) M) : V X k n Q pc ls (vi b :: vi a :: st) M := by
  intro H locs la hl hP hD hS
  refine lv_iand hX.1 hX.2.1 d ?_
  rw [← vi_toInt]
  exact kk H locs la hl hP hD hS
theorem x_ior (hX : Gd X own cc nL ret lv) {a b : Int} (d : decode cc pc = .ok (.ior, 1)) (kk : V X k n Q (pc + 1) ls (vi (i_or a b) :: st) M) : V X k n Q pc ls (vi b :: vi a :: st) M := by
  intro H locs la hl hP hD hS
  refine lv_ior hX.1 hX.2.1 d ?_
  rw [← vi_toInt]
  exact kk H locs la hl hP hD hS
theorem x_ixor (hX : Gd X own cc nL ret lv) {a b : Int} (d : decode cc pc = .ok (.ixor, 1)) (kk : V X k n Q (pc + 1) ls (vi (i_xor a b) :: st) M) : V X k n Q pc ls (vi b :: vi a :: st) M := by
  intro H locs la hl hP hD hS
  refine lv_ixor hX.1 hX.2.1 d ?_
  rw [← vi_toInt]
  exact kk H locs la hl hP hD hS
theorem x_ishl (hX : Gd X own cc nL ret lv) {a b : Int} (d : decode cc pc = .ok (.ishl, 1)) (kk : V X k n Q (pc + 1) ls (vi (i_shl a b) :: st) M) : V X k n Q pc ls (vi b :: vi a :: st) M := by
  intro H locs la hl hP hD hS
  refine lv_ishl hX.1 hX.2.1 d ?_
  rw [← vi_toInt]
  exact kk H locs la hl hP hD hS
theorem x_ishr (hX : Gd X own cc nL ret lv) {a b : Int} (d : decode cc pc = .ok (.ishr, 1)) (kk : V X k n Q (pc + 1) ls (vi (i_shr a b) :: st) M) : V X k n Q pc ls (vi b :: vi a :: st) M := by
  intro H locs la hl hP hD hS
  refine lv_ishr hX.1 hX.2.1 d ?_
  rw [← vi_toInt]
  exact kk H locs la hl hP hD hS
theorem x_iushr (hX : Gd X own cc nL ret lv) {a b : Int} (d : decode cc pc = .ok (.iushr, 1)) (kk : V X k n Q (pc + 1) ls (vi (i_ushr a b) :: st) M) : V X k n Q pc ls (vi b :: vi a :: st) M := by
  intro H locs la hl hP hD hS
  refine lv_iushr hX.1 hX.2.1 d rfl ?_
  rw [← vi_toInt]
  exact kk H locs la hl hP hD hS
theorem x_i2b (hX : Gd X own cc nL ret lv) {a : Int} (d : decode cc pc = .ok (.i2b, 1)) (kk : V X k n Q (pc + 1) ls (vi (i_b a) :: st) M) : V X k n Q pc ls (vi a :: st) M := by
  intro H locs la hl hP hD hS
  refine lv_i2b hX.1 hX.2.1 d rfl ?_
  rw [← vi_toInt]
  exact kk H locs la hl hP hD hS
theorem x_i2c (hX : Gd X own cc nL ret lv) {a : Int} (d : decode cc pc = .ok (.i2c, 1)) (kk : V X k n Q (pc + 1) ls (vi (i_c a) :: st) M) : V X k n Q pc ls (vi a :: st) M := by
  intro H locs la hl hP hD hS
  refine lv_i2c hX.1 hX.2.1 d rfl ?_
  rw [← vi_toInt]
  exact kk H locs la hl hP hD hS
theorem x_i2l (hX : Gd X own cc nL ret lv) {a : Int} (d : decode cc pc = .ok (.i2l, 1)) (kk : V X k n Q (pc + 1) ls (vLz (w32 a) :: st) M) : V X k n Q pc ls (vi a :: st) M := by
  intro H locs la hl hP hD hS
  refine lv_i2l hX.1 hX.2.1 d (v := Int64.ofInt (w32 a)) ?_ (kk H locs la hl hP hD hS)
  refine Int64.toInt_inj.mp ?_
  have h1 := (Int32.ofInt a).le_toInt
  have h2 := (Int32.ofInt a).toInt_lt
  rw [Int32.toInt_toInt64, Int64.toInt_ofInt_of_le (by unfold w32; omega) (by unfold w32; omega)]
  rfl
theorem x_dup (hX : Gd X own cc nL ret lv) {v : Value} (d : decode cc pc = .ok (.dup, 1)) (hv : v.category = 1) (kk : V X k n Q (pc + 1) ls (v :: v :: st) M) : V X k n Q pc ls (v :: st) M :=
  fun H locs la hl hP hD hS => lv_dup hX.1 hX.2.1 d hv (kk H locs la hl hP hD hS)
theorem x_dup2 (hX : Gd X own cc nL ret lv) {v u : Value} (d : decode cc pc = .ok (.dup2, 1)) (hv : v.category = 1) (hu : u.category = 1) (kk : V X k n Q (pc + 1) ls (v :: u :: v :: u :: st) M) : V X k n Q pc ls (v :: u :: st) M :=
  fun H locs la hl hP hD hS => lv_dup2_11 hX.1 hX.2.1 d hv hu (kk H locs la hl hP hD hS)
theorem x_pop (hX : Gd X own cc nL ret lv) {v : Value} (d : decode cc pc = .ok (.pop, 1)) (hv : v.category = 1) (kk : V X k n Q (pc + 1) ls st M) : V X k n Q pc ls (v :: st) M :=
  fun H locs la hl hP hD hS => lv_pop hX.1 hX.2.1 d hv (kk H locs la hl hP hD hS)
theorem x_goto (hX : Gd X own cc nL ret lv) {off : Int} {tgt : Nat} (d : decode cc pc = .ok (.goto off, 3)) (ht : (pc : Int) + off = (tgt : Int)) (kk : V X k n Q tgt ls st M) : V X k n Q pc ls st M :=
  fun H locs la hl hP hD hS => lv_goto hX.1 hX.2.1 d ht (kk H locs la hl hP hD hS)
end VROWS
