-- ===== objects in the making =====
def refd (M : Mem) (i r : Nat) : Prop := (10 ≤ (kd i).1 ∧ ∃ k off : Nat, (fspT.getD ((kd i).1 - 10) [])[k]? = some (some off) ∧ r = i + off) ∨ ((kd i).1 = 5 ∧ ∃ j : Nat, j < (kd i).2 ∧ r = i + 1 + j) ∨ ((kd i).1 = 6 ∧ ∃ j : Nat, ¬ M i j = 0 ∧ r = 160 + 18 * j)
theorem ent_ad {G G' : Gx} {M : Mem} {i : Nat} (h10 : 10 ≤ (kd i).1 ∨ (kd i).1 ≤ 6 ∧ 1 ≤ (kd i).1) (ht : G'.2.2 = G.2.2) (h : ∀ r, refd M i r → gad G' r = gad G r) : ent G' M i = ent G M i := by
  have hcy : gcy G' = gcy G := by unfold gcy; rw [ht]
  unfold ent
  rw [hcy]
  by_cases h1 : (kd i).1 = 1
  · rw [if_pos h1, if_pos h1]
  rw [if_neg h1, if_neg h1]
  by_cases h2 : (kd i).1 = 2
  · rw [if_pos h2, if_pos h2]
  rw [if_neg h2, if_neg h2]
  by_cases h3 : (kd i).1 = 3
  · rw [if_pos h3, if_pos h3]
  rw [if_neg h3, if_neg h3]
  by_cases h4 : (kd i).1 = 4
  · rw [if_pos h4, if_pos h4]
  rw [if_neg h4, if_neg h4]
  by_cases h5 : (kd i).1 = 5
  · rw [if_pos h5, if_pos h5]
    have e : (fun j => if j < (kd i).2 then some (gad G' (i + 1 + j)) else none) = (fun j => if j < (kd i).2 then some (gad G (i + 1 + j)) else none) := by
      funext j
      by_cases q : j < (kd i).2
      · rw [if_pos q, if_pos q, h _ (Or.inr (Or.inl ⟨h5, j, q, rfl⟩))]
      · rw [if_neg q, if_neg q]
    rw [e]
  rw [if_neg h5, if_neg h5]
  by_cases h6 : (kd i).1 = 6
  · rw [if_pos h6, if_pos h6]
    have e : (fun j => if M i j = 0 then none else some (gad G' (160 + 18 * j))) = (fun j => if M i j = 0 then none else some (gad G (160 + 18 * j))) := by
      funext j
      by_cases q : M i j = 0
      · rw [if_pos q, if_pos q]
      · rw [if_neg q, if_neg q, h _ (Or.inr (Or.inr ⟨h6, j, q, rfl⟩))]
    rw [e]
  rw [if_neg h6, if_neg h6]
  have e : flds G' M i ((kd i).1 - 10) = flds G M i ((kd i).1 - 10) := by
    unfold flds
    apply List.ext_getElem?
    intro k
    rw [List.getElem?_mapIdx, List.getElem?_mapIdx]
    cases hq : (fspT.getD ((kd i).1 - 10) [])[k]? with
    | none => rfl
    | some o => cases o with
      | none => rfl
      | some off =>
        simp only [Option.map_some, fv, vr]
        rw [h (i + off) (Or.inl ⟨by omega, k, off, hq, rfl⟩)]
  rw [e]
def pfv (G : Gx) (M : Mem) (i k : Nat) (o : Option Nat) (dn : List Nat) : Value := match o with
  | none => vi (M i k)
  | some off => if k ∈ dn then vr G (i + off) else .null
/-- the fields of an object in the making: those of dn are laid -/
def pfl (G : Gx) (M : Mem) (i ci : Nat) (dn : List Nat) : List Value := (fspT.getD ci []).mapIdx (fun k o => pfv G M i k o dn)
def dfl (ci : Nat) : List Value := (fspT.getD ci []).map (fun o => match o with
  | none => .int 0
  | some _ => .null)
theorem pfl_len {G : Gx} {M : Mem} {i ci : Nat} {dn : List Nat} : (pfl G M i ci dn).length = (fspT.getD ci []).length := by unfold pfl; rw [List.length_mapIdx]
theorem pfl_at {G : Gx} {M : Mem} {i ci : Nat} {dn : List Nat} (k : Nat) : (pfl G M i ci dn)[k]? = ((fspT.getD ci [])[k]?).map (fun o => pfv G M i k o dn) := by unfold pfl; rw [List.getElem?_mapIdx]
theorem pfl_dfl {G : Gx} {M : Mem} {i ci : Nat} (h : ∀ k, M i k = 0) : pfl G M i ci [] = dfl ci := by
  apply List.ext_getElem?
  intro k
  rw [pfl_at]
  unfold dfl
  rw [List.getElem?_map]
  cases hq : (fspT.getD ci [])[k]? with
  | none => rfl
  | some o => cases o with
    | none => simp only [Option.map_some, pfv, h]; rfl
    | some off => simp [pfv]
theorem pfl_all {G : Gx} {M : Mem} {i ci : Nat} {dn : List Nat} (h : ∀ (k off : Nat), (fspT.getD ci [])[k]? = some (some off) → k ∈ dn) : pfl G M i ci dn = flds G M i ci := by
  apply List.ext_getElem?
  intro k
  rw [pfl_at]
  unfold flds
  rw [List.getElem?_mapIdx]
  cases hq : (fspT.getD ci [])[k]? with
  | none => rfl
  | some o => cases o with
    | none => rfl
    | some off => simp only [Option.map_some, pfv, fv, if_pos (h k off hq)]
theorem pfl_ad {G G' : Gx} {M M' : Mem} {i ci : Nat} {dn : List Nat} (hM : M' i = M i) (h : ∀ (k off : Nat), (fspT.getD ci [])[k]? = some (some off) → k ∈ dn → gad G' (i + off) = gad G (i + off)) : pfl G' M' i ci dn = pfl G M i ci dn := by
  apply List.ext_getElem?
  intro k
  rw [pfl_at, pfl_at]
  cases hq : (fspT.getD ci [])[k]? with
  | none => rfl
  | some o => cases o with
    | none => simp only [Option.map_some, pfv, hM]
    | some off =>
      simp only [Option.map_some, pfv, vr]
      by_cases q : k ∈ dn
      · rw [if_pos q, if_pos q, h k off hq q]
      · rw [if_neg q, if_neg q]
theorem pfl_set {G : Gx} {M : Mem} {i ci f off : Nat} {dn : List Nat} (ho : (fspT.getD ci [])[f]? = some (some off)) : (pfl G M i ci dn).set f (vr G (i + off)) = pfl G M i ci (f :: dn) := by
  apply List.ext_getElem?
  intro k
  have hl : f < (pfl G M i ci dn).length := by rw [pfl_len]; exact (List.getElem?_eq_some_iff.mp ho).1
  rw [List.getElem?_set, pfl_at]
  by_cases e : f = k
  · subst e
    rw [if_pos rfl, if_pos hl, pfl_at, ho]
    simp [pfv]
  · rw [if_neg e, pfl_at]
    have e2 : ¬ k = f := fun q => e q.symm
    cases hq : (fspT.getD ci [])[k]? with
    | none => rfl
    | some o => cases o with
      | none => rfl
      | some off' => simp [pfv, e2]
theorem pfl_setI {G : Gx} {M : Mem} {i ci f : Nat} {v : Int} {dn : List Nat} (ho : (fspT.getD ci [])[f]? = some none) : (pfl G M i ci dn).set f (vi v) = pfl G (upd2 M i f v) i ci dn := by
  apply List.ext_getElem?
  intro k
  have hl : f < (pfl G M i ci dn).length := by rw [pfl_len]; exact (List.getElem?_eq_some_iff.mp ho).1
  rw [List.getElem?_set, pfl_at]
  by_cases e : f = k
  · subst e
    rw [if_pos rfl, if_pos hl, pfl_at, ho]
    simp [pfv, upd2_at]
  · rw [if_neg e, pfl_at]
    have e2 : ¬ k = f := fun q => e q.symm
    cases hq : (fspT.getD ci [])[k]? with
    | none => rfl
    | some o => cases o with
      | none => simp [pfv, upd2_at, e2]
      | some off' => rfl
/-- two worlds side by side -/
def gj (G Gs : Gx) : Gx := (fun i => if i ∈ gL Gs then gad Gs i else gad G i, gL G ++ gL Gs, G.2.2)
def CL (G : Gx) (M : Mem) : Prop := ∀ i ∈ gL G, (10 ≤ (kd i).1 ∨ (kd i).1 ≤ 6 ∧ 1 ≤ (kd i).1) ∧ ∀ r, refd M i r → r ∈ gL G
theorem refd_congr {M M' : Mem} {i r : Nat} (h : M' i = M i) : refd M' i r ↔ refd M i r := by unfold refd; rw [h]
theorem wl_gj {G Gs : Gx} {M Ms : Mem} (ht : Gs.2.2 = G.2.2) (hd : ∀ i ∈ gL G, i ∉ gL Gs) (hc : CL G M) (hcs : CL Gs Ms) : wl (gj G Gs) (mj M Ms (gL Gs)) = wl G M ++ wl Gs Ms := by
  unfold wl
  show (gL G ++ gL Gs).map _ = _
  rw [List.map_append]
  congr 1
  · apply List.map_congr_left
    intro i hi
    have hM : mj M Ms (gL Gs) i = M i := by unfold mj; rw [if_neg (hd i hi)]
    have e1 : gad (gj G Gs) i = gad G i := by show (if i ∈ gL Gs then _ else _) = _; rw [if_neg (hd i hi)]
    rw [e1, ent_congr hM, ent_ad (G := G) (G' := gj G Gs) (hc i hi).1 rfl (fun r hr => (by
      show (if r ∈ gL Gs then _ else _) = _
      rw [if_neg (hd r ((hc i hi).2 r hr))]))]
  · apply List.map_congr_left
    intro i hi
    have hM : mj M Ms (gL Gs) i = Ms i := by unfold mj; rw [if_pos hi]
    have e1 : gad (gj G Gs) i = gad Gs i := by show (if i ∈ gL Gs then _ else _) = _; rw [if_pos hi]
    rw [e1, ent_congr hM, ent_ad (G := Gs) (G' := gj G Gs) (hcs i hi).1 ht.symm (fun r hr => (by
      show (if r ∈ gL Gs then _ else _) = _
      rw [if_pos ((hcs i hi).2 r hr)]))]
def gO (G : Gx) : Gx := (gad G, [], G.2.2)
/-- a constructor's contract: from the cell h0, new and empty, to the cells Ls that hold Ms, the object at i -/
def QC (h0 i : Nat) (T : Nat × va_G × (Nat → ClassId) × (Nat → Nat) × (Nat → Nat)) (Ls : List Nat) (Ms : Mem) : Array Value → State → Outcome → State → Prop := fun _ st oc t =>
  (oc = .returned none ∧ ∃ Gs : Gx, Gs.2.2 = T ∧ gL Gs = Ls ∧ gad Gs i = h0 ∧ Wd Gs Ms t ∧ ∀ j ∈ Ls, gad Gs j = h0 ∨ st.heap.size ≤ gad Gs j) ∧ va_F (fun q => q = h0 ∨ st.heap.size ≤ q) st t
def Ci (l : Launch) (G : Gx) (m : Mth) (lv mc ms i ci : Nat) (Ls : List Nat) (Ms : Mem) : Prop := ∀ h0 sz : Nat,
  Met l (mY m) (wsM m) (rmk lv mc ms) (va_Pc [.ref h0] (fun U => U.heap.size = sz ∧ h0 < sz ∧ gSz G ≤ h0 ∧ Wd (gO G) (fun _ _ => 0) U ∧ va_at (gDz G) vwCl (h0, .inr (ci, dfl ci)) U.heap)) (QC h0 i G.2.2 Ls Ms) mc ms (fun q => q = h0 ∨ sz ≤ q)
def VP (X : Cxt) (G : Gx) (h0 i ci : Nat) (dn : List Nat) (k n : Nat) (Q : State → Prop) (pc : Nat) (ls : List (Option Value)) (st : List Value) (M : Mem) : Prop :=
  ∀ (H : Heap) (locs : List Loc) (la : Array Slot), LV la (xc X).maxLocals ls → va_P (gDz (xG X)) vwCl ((h0, .inr (ci, pfl G M i ci dn)) :: wl G M) H → va_D (xA X) ((h0, .inr (ci, pfl G M i ci dn)) :: wl G M) → va_S (xA X) (xs X).heap H locs → WX X H locs k n Q (F0 (xm X) pc la st)
/-- what a constructor's body stands on -/
def PX (X : Cxt) (mc ms : Nat) : Prop := (∀ q, (xs X).heap.size ≤ q → xA X q) ∧ (xt X).name = "<init>" ∧ (xR X).cells = mc ∧ (xR X).slots = ms
def OIW (own : String) (idx : Nat) : Prop := Cond.methodLink own idx Lib.objectInit ∈ WS ∧ Cond.instanceMethod Lib.objectInit ∈ WS ∧ Cond.code Lib.objectInit ⟨#[0xb1]⟩ 1 none ∈ WS
def DNI (G : Gx) (i ci : Nat) (dn : List Nat) : Prop := ∀ (k off : Nat), (fspT.getD ci [])[k]? = some (some off) → k ∈ dn → i + off ∈ gL G
section VPR
variable {X : Cxt} {G : Gx} {h0 i ci : Nat} {dn : List Nat} {k n mc ms : Nat} {Q : State → Prop} {pc : Nat} {ls ls' : List (Option Value)} {st : List Value} {M : Mem} {own : String} {cc : ByteArray} {nL lv : Nat} {ret : Option FieldType}
theorem p_aload (hX : Gd X own cc nL ret lv) {j : Fin 4} {a : Nat} (d : decode cc pc = .ok (.aload_n j, 1)) (hi : ls[(j : Nat)]? = some (some (.ref a))) (kk : VP X G h0 i ci dn k n Q (pc + 1) ls (.ref a :: st) M) : VP X G h0 i ci dn k n Q pc ls st M :=
  fun H locs la hl hP hD hS => lv_aload_n hX.1 hX.2.1 d rfl (hl.at hi) (kk H locs la hl hP hD hS)
theorem p_iconst (hX : Gd X own cc nL ret lv) {c : Int} (d : decode cc pc = .ok (.iconst c, 1)) (kk : VP X G h0 i ci dn k n Q (pc + 1) ls (vi c :: st) M) : VP X G h0 i ci dn k n Q pc ls st M :=
  fun H locs la hl hP hD hS => lv_iconst hX.1 hX.2.1 d rfl (kk H locs la hl hP hD hS)
theorem p_bipush (hX : Gd X own cc nL ret lv) {c : Int} (d : decode cc pc = .ok (.bipush c, 2)) (hv : (Int8.ofInt c).toInt32 = Int32.ofInt c) (kk : VP X G h0 i ci dn k n Q (pc + 2) ls (vi c :: st) M) : VP X G h0 i ci dn k n Q pc ls st M :=
  fun H locs la hl hP hD hS => lv_bipush hX.1 hX.2.1 d hv (kk H locs la hl hP hD hS)
theorem p_sipush (hX : Gd X own cc nL ret lv) {c : Int} (d : decode cc pc = .ok (.sipush c, 3)) (hv : (Int16.ofInt c).toInt32 = Int32.ofInt c) (kk : VP X G h0 i ci dn k n Q (pc + 3) ls (vi c :: st) M) : VP X G h0 i ci dn k n Q pc ls st M :=
  fun H locs la hl hP hD hS => lv_sipush hX.1 hX.2.1 d hv (kk H locs la hl hP hD hS)
theorem p_dup (hX : Gd X own cc nL ret lv) {v : Value} (d : decode cc pc = .ok (.dup, 1)) (hv : v.category = 1) (kk : VP X G h0 i ci dn k n Q (pc + 1) ls (v :: v :: st) M) : VP X G h0 i ci dn k n Q pc ls (v :: st) M :=
  fun H locs la hl hP hD hS => lv_dup hX.1 hX.2.1 d hv (kk H locs la hl hP hD hS)
theorem p_obj (hX : Gd X own cc nL ret lv) {a idx : Nat} (d : decode cc pc = .ok (.invokespecial idx, 3)) (hw : OIW own idx) (hst : (st.map fun v => v.category).sum ≤ 8) (kk : VP X G h0 i ci dn k n Q (pc + 3) ls st M) : VP X G h0 i ci dn k n Q pc ls (.ref a :: st) M := by
  intro H locs la hl hP hD hS
  have h2 := hX.2.2.2.2.2.2.2.2.2.2.1
  have h3 := hX.2.2.2.2.2.2.2.2.2.2.2.1
  have hr := lv_room (m := xm X) (pc := pc) (ls := la) (rest := .ref a :: st) hst
  exact W.objInit hX.1 hX.2.1 hX.2.2.2.1 (hX.2.2.2.2.1 _ hw.1) (hX.2.2.2.2.1 _ hw.2.1) (hX.2.2.2.2.1 _ hw.2.2) (g := F0 (xm X) pc la (.ref a :: st)) rfl hl.1 rfl d (Nat.le_trans (by omega) h2) (Nat.le_trans (Nat.add_le_add_right hr 12) (Nat.le_trans (by omega) h3)) (kk H locs la hl hP hD hS)
theorem cy_eq (hX : Gd X own cc nL ret lv) {t0 : Nat} {c1 cA : ClassId} {ty : FieldType} {tl : List (ClassId × FieldType)} (h0 : (tys (xG X))[t0]? = some (c1, ty)) (hK : va_K (gDz (xG X)) vwCl (tl ++ [(cA, ty)]) (xs X)) : cA = c1 := by
  have a := (hX.2.2.2.2.2.2.2.1.2 t0 _ h0).2
  have b := (hK.2 tl.length (cA, ty) (by rw [List.getElem?_append_right (Nat.le_refl _)]; simp)).2
  cases ty with
  | object C =>
    obtain ⟨_, _, _, _, _, q1⟩ := a
    obtain ⟨_, _, _, _, _, q2⟩ := b
    exact Option.some.inj (q2.symm.trans q1)
  | _ => exact Option.some.inj ((show (xs X).vm.findClass _ = some cA from b).symm.trans (show (xs X).vm.findClass _ = some c1 from a))
/-- one more cell j at the address q -/
theorem vp_ext (ht : G.2.2 = (xG X).2.2) {j q : Nat} {e : va_E} (hkj : 10 ≤ (kd j).1 ∨ (kd j).1 ≤ 6 ∧ 1 ≤ (kd j).1) (hnr : ∀ r, ¬ refd (fun _ _ => 0) j r) (he : ent (fun _ => q, [j], G.2.2) (fun _ _ => 0) j = e) (hj : j ∉ gL G) (hji : i ≠ j) (hcl : CL G M) (hdn : DNI G i ci dn) {P : va_W → Prop} (h : P (((h0, .inr (ci, pfl G M i ci dn)) :: wl G M) ++ [(q, e)])) :
    P ((h0, .inr (ci, pfl (gj G (fun _ => q, [j], G.2.2)) (mj M (fun _ _ => 0) [j]) i ci dn)) :: wl (gj G (fun _ => q, [j], G.2.2)) (mj M (fun _ _ => 0) [j])) := by
  have e1 : wl (gj G (fun _ => q, [j], G.2.2)) (mj M (fun _ _ => 0) [j]) = wl G M ++ [(q, e)] := by
    have := wl_gj (G := G) (Gs := (fun _ => q, [j], G.2.2)) (M := M) (Ms := fun _ _ => 0) rfl (fun r hr => ?_) hcl (fun r hr => ?_)
    · rw [show gL ((fun _ => q, [j], G.2.2) : Gx) = [j] from rfl] at this
      rw [this]
      congr 1
      show [(q, ent _ _ j)] = _
      rw [he]
    · show r ∉ [j]
      intro z
      rw [List.mem_singleton] at z
      subst z
      exact hj hr
    · have z : r ∈ [j] := hr
      rw [List.mem_singleton] at z
      subst z
      exact ⟨hkj, fun r' hr' => absurd hr' (hnr r')⟩
  have e2 : pfl (gj G (fun _ => q, [j], G.2.2)) (mj M (fun _ _ => 0) [j]) i ci dn = pfl G M i ci dn := by
    refine pfl_ad ?_ ?_
    · show (if i ∈ [j] then _ else _) = _
      rw [if_neg (by rw [List.mem_singleton]; exact hji)]
    · intro k off hk hd
      show (if i + off ∈ [j] then _ else _) = _
      rw [if_neg]
      rw [List.mem_singleton]
      intro z
      exact hj (z ▸ hdn k off hk hd)
  rw [e1, e2]
  exact h
theorem p_arrI (hX : Gd X own cc nL ret lv) (hp : PX X mc ms) (ht : G.2.2 = (xG X).2.2) {j N : Nat} {c : Int} (d : decode cc pc = .ok (.newarray .int, 2)) (hw : Cond.arrayClass .int ∈ WS) (hk : kd j = (1, N)) (hc : ¬ Int32.ofInt c < 0 ∧ (Int32.ofInt c).toNatClampNeg = N) (hb : N ≤ 10000) (hj : j ∉ gL G) (hji : i ≠ j) (hcl : CL G M) (hdn : DNI G i ci dn) (hkc : k + 1 ≤ mc) (hnc : n + N ≤ ms)
    (kk : ∀ G1 : Gx, G1.2.2 = (xG X).2.2 → gL G1 = gL G ++ [j] → (∀ r ∈ gL G, gad G1 r = gad G r) → VP X G1 h0 i ci dn (k + 1) (n + N) Q (pc + 2) ls (vr G1 j :: st) (mj M (fun _ _ => 0) [j])) : VP X G h0 i ci dn k n Q pc ls (vi c :: st) M := by
  intro H locs la hl hP hD hS
  refine va_newa (D := gDz (xG X)) (cl := vwCl) (atype := .int) (ty := .int) (a0 := (N, .inl (fun _ => Int32.ofInt 0))) hX.1 hX.2.1 (hX.2.2.2.2.1 _ hw) rfl hX.2.2.2.2.2.2.2.1 hP hD hS hp.1 (fun cA => rfl) hc.1 hc.2 (show N * 4 ≤ 536870912 by omega) (by rw [hp.2.2.1]; exact hkc) (by rw [hp.2.2.2]; exact hnc) d (fun q cA H1 hK1 hP1 hD1 hS1 => ?_)
  have hcA : cA = gcy (xG X) 0 := cy_eq hX (t0 := 0) rfl hK1
  subst hcA
  have hcy : gcy (xG X) 0 = (G.2.2.2.2.1) 0 := by rw [ht]; rfl
  have he : ent (fun _ => q, [j], G.2.2) (fun _ _ => 0) j = .inl (gcy (xG X) 0, N, .inl (fun _ => Int32.ofInt 0)) := by rw [ent1 hk, hcy]; rfl
  have hkj : 10 ≤ (kd j).1 ∨ (kd j).1 ≤ 6 ∧ 1 ≤ (kd j).1 := by rw [hk]; exact Or.inr ⟨Nat.le_of_ble_eq_true rfl, Nat.le_of_ble_eq_true rfl⟩
  have hnr : ∀ r, ¬ refd (fun _ _ => 0) j r := by
    intro r hr
    unfold refd at hr
    rw [hk] at hr
    rcases hr with ⟨h, -⟩ | ⟨h, -⟩ | ⟨h, -⟩ <;> simp at h
  have hq : gad (gj G (fun _ => q, [j], G.2.2)) j = q := by show (if j ∈ [j] then _ else _) = _; rw [if_pos (by simp)]; rfl
  have hP2 := vp_ext (X := X) (P := fun w => va_P (gDz (xG X)) vwCl w H1) ht hkj hnr he hj hji hcl hdn hP1
  have hD2 := vp_ext (X := X) (P := fun w => va_D (xA X) w) ht hkj hnr he hj hji hcl hdn hD1
  have := kk (gj G (fun _ => q, [j], G.2.2)) ht rfl (fun r hr => by show (if r ∈ [j] then _ else _) = _; rw [if_neg (by rw [List.mem_singleton]; intro z; exact hj (z ▸ hr))]) H1 locs la hl hP2 hD2 hS1
  unfold vr at this
  rw [hq] at this
  exact this
theorem p_arrB (hX : Gd X own cc nL ret lv) (hp : PX X mc ms) (ht : G.2.2 = (xG X).2.2) {j N : Nat} {c : Int} (d : decode cc pc = .ok (.newarray .byte, 2)) (hw : Cond.arrayClass .byte ∈ WS) (hk : kd j = (2, N)) (hc : ¬ Int32.ofInt c < 0 ∧ (Int32.ofInt c).toNatClampNeg = N) (hb : N ≤ 10000) (hj : j ∉ gL G) (hji : i ≠ j) (hcl : CL G M) (hdn : DNI G i ci dn) (hkc : k + 1 ≤ mc) (hnc : n + N ≤ ms)
    (kk : ∀ G1 : Gx, G1.2.2 = (xG X).2.2 → gL G1 = gL G ++ [j] → (∀ r ∈ gL G, gad G1 r = gad G r) → VP X G1 h0 i ci dn (k + 1) (n + N) Q (pc + 2) ls (vr G1 j :: st) (mj M (fun _ _ => 0) [j])) : VP X G h0 i ci dn k n Q pc ls (vi c :: st) M := by
  intro H locs la hl hP hD hS
  refine va_newa (D := gDz (xG X)) (cl := vwCl) (atype := .byte) (ty := .byte) (a0 := (N, .inl (fun _ => Int32.ofInt 0))) hX.1 hX.2.1 (hX.2.2.2.2.1 _ hw) rfl hX.2.2.2.2.2.2.2.1 hP hD hS hp.1 (fun cA => rfl) hc.1 hc.2 (show N * 1 ≤ 536870912 by omega) (by rw [hp.2.2.1]; exact hkc) (by rw [hp.2.2.2]; exact hnc) d (fun q cA H1 hK1 hP1 hD1 hS1 => ?_)
  have hcA : cA = gcy (xG X) 1 := cy_eq hX (t0 := 1) rfl hK1
  subst hcA
  have hcy : gcy (xG X) 1 = (G.2.2.2.2.1) 1 := by rw [ht]; rfl
  have he : ent (fun _ => q, [j], G.2.2) (fun _ _ => 0) j = .inl (gcy (xG X) 1, N, .inl (fun _ => Int32.ofInt 0)) := by rw [ent2 hk, hcy]; rfl
  have hkj : 10 ≤ (kd j).1 ∨ (kd j).1 ≤ 6 ∧ 1 ≤ (kd j).1 := by rw [hk]; exact Or.inr ⟨Nat.le_of_ble_eq_true rfl, Nat.le_of_ble_eq_true rfl⟩
  have hnr : ∀ r, ¬ refd (fun _ _ => 0) j r := by
    intro r hr
    unfold refd at hr
    rw [hk] at hr
    rcases hr with ⟨h, -⟩ | ⟨h, -⟩ | ⟨h, -⟩ <;> simp at h
  have hq : gad (gj G (fun _ => q, [j], G.2.2)) j = q := by show (if j ∈ [j] then _ else _) = _; rw [if_pos (by simp)]; rfl
  have hP2 := vp_ext (X := X) (P := fun w => va_P (gDz (xG X)) vwCl w H1) ht hkj hnr he hj hji hcl hdn hP1
  have hD2 := vp_ext (X := X) (P := fun w => va_D (xA X) w) ht hkj hnr he hj hji hcl hdn hD1
  have := kk (gj G (fun _ => q, [j], G.2.2)) ht rfl (fun r hr => by show (if r ∈ [j] then _ else _) = _; rw [if_neg (by rw [List.mem_singleton]; intro z; exact hj (z ▸ hr))]) H1 locs la hl hP2 hD2 hS1
  unfold vr at this
  rw [hq] at this
  exact this
theorem p_arrZ (hX : Gd X own cc nL ret lv) (hp : PX X mc ms) (ht : G.2.2 = (xG X).2.2) {j N : Nat} {c : Int} (d : decode cc pc = .ok (.newarray .boolean, 2)) (hw : Cond.arrayClass .boolean ∈ WS) (hk : kd j = (3, N)) (hc : ¬ Int32.ofInt c < 0 ∧ (Int32.ofInt c).toNatClampNeg = N) (hb : N ≤ 10000) (hj : j ∉ gL G) (hji : i ≠ j) (hcl : CL G M) (hdn : DNI G i ci dn) (hkc : k + 1 ≤ mc) (hnc : n + N ≤ ms)
    (kk : ∀ G1 : Gx, G1.2.2 = (xG X).2.2 → gL G1 = gL G ++ [j] → (∀ r ∈ gL G, gad G1 r = gad G r) → VP X G1 h0 i ci dn (k + 1) (n + N) Q (pc + 2) ls (vr G1 j :: st) (mj M (fun _ _ => 0) [j])) : VP X G h0 i ci dn k n Q pc ls (vi c :: st) M := by
  intro H locs la hl hP hD hS
  refine va_newa (D := gDz (xG X)) (cl := vwCl) (atype := .boolean) (ty := .boolean) (a0 := (N, .inl (fun _ => Int32.ofInt 0))) hX.1 hX.2.1 (hX.2.2.2.2.1 _ hw) rfl hX.2.2.2.2.2.2.2.1 hP hD hS hp.1 (fun cA => rfl) hc.1 hc.2 (show N * 1 ≤ 536870912 by omega) (by rw [hp.2.2.1]; exact hkc) (by rw [hp.2.2.2]; exact hnc) d (fun q cA H1 hK1 hP1 hD1 hS1 => ?_)
  have hcA : cA = gcy (xG X) 2 := cy_eq hX (t0 := 2) rfl hK1
  subst hcA
  have hcy : gcy (xG X) 2 = (G.2.2.2.2.1) 2 := by rw [ht]; rfl
  have he : ent (fun _ => q, [j], G.2.2) (fun _ _ => 0) j = .inl (gcy (xG X) 2, N, .inl (fun _ => Int32.ofInt 0)) := by rw [ent3 hk, hcy]; rfl
  have hkj : 10 ≤ (kd j).1 ∨ (kd j).1 ≤ 6 ∧ 1 ≤ (kd j).1 := by rw [hk]; exact Or.inr ⟨Nat.le_of_ble_eq_true rfl, Nat.le_of_ble_eq_true rfl⟩
  have hnr : ∀ r, ¬ refd (fun _ _ => 0) j r := by
    intro r hr
    unfold refd at hr
    rw [hk] at hr
    rcases hr with ⟨h, -⟩ | ⟨h, -⟩ | ⟨h, -⟩ <;> simp at h
  have hq : gad (gj G (fun _ => q, [j], G.2.2)) j = q := by show (if j ∈ [j] then _ else _) = _; rw [if_pos (by simp)]; rfl
  have hP2 := vp_ext (X := X) (P := fun w => va_P (gDz (xG X)) vwCl w H1) ht hkj hnr he hj hji hcl hdn hP1
  have hD2 := vp_ext (X := X) (P := fun w => va_D (xA X) w) ht hkj hnr he hj hji hcl hdn hD1
  have := kk (gj G (fun _ => q, [j], G.2.2)) ht rfl (fun r hr => by show (if r ∈ [j] then _ else _) = _; rw [if_neg (by rw [List.mem_singleton]; intro z; exact hj (z ▸ hr))]) H1 locs la hl hP2 hD2 hS1
  unfold vr at this
  rw [hq] at this
  exact this
theorem p_arrL (hX : Gd X own cc nL ret lv) (hp : PX X mc ms) (ht : G.2.2 = (xG X).2.2) {j N : Nat} {c : Int} (d : decode cc pc = .ok (.newarray .long, 2)) (hw : Cond.arrayClass .long ∈ WS) (hk : kd j = (4, N)) (hc : ¬ Int32.ofInt c < 0 ∧ (Int32.ofInt c).toNatClampNeg = N) (hb : N ≤ 10000) (hj : j ∉ gL G) (hji : i ≠ j) (hcl : CL G M) (hdn : DNI G i ci dn) (hkc : k + 1 ≤ mc) (hnc : n + N ≤ ms)
    (kk : ∀ G1 : Gx, G1.2.2 = (xG X).2.2 → gL G1 = gL G ++ [j] → (∀ r ∈ gL G, gad G1 r = gad G r) → VP X G1 h0 i ci dn (k + 1) (n + N) Q (pc + 2) ls (vr G1 j :: st) (mj M (fun _ _ => 0) [j])) : VP X G h0 i ci dn k n Q pc ls (vi c :: st) M := by
  intro H locs la hl hP hD hS
  refine va_newa (D := gDz (xG X)) (cl := vwCl) (atype := .long) (ty := .long) (a0 := (N, .inr (.inl (fun _ => Int64.ofInt 0)))) hX.1 hX.2.1 (hX.2.2.2.2.1 _ hw) rfl hX.2.2.2.2.2.2.2.1 hP hD hS hp.1 (fun cA => rfl) hc.1 hc.2 (show N * 8 ≤ 536870912 by omega) (by rw [hp.2.2.1]; exact hkc) (by rw [hp.2.2.2]; exact hnc) d (fun q cA H1 hK1 hP1 hD1 hS1 => ?_)
  have hcA : cA = gcy (xG X) 3 := cy_eq hX (t0 := 3) rfl hK1
  subst hcA
  have hcy : gcy (xG X) 3 = (G.2.2.2.2.1) 3 := by rw [ht]; rfl
  have he : ent (fun _ => q, [j], G.2.2) (fun _ _ => 0) j = .inl (gcy (xG X) 3, N, .inr (.inl (fun _ => Int64.ofInt 0))) := by rw [ent4 hk, hcy]; rfl
  have hkj : 10 ≤ (kd j).1 ∨ (kd j).1 ≤ 6 ∧ 1 ≤ (kd j).1 := by rw [hk]; exact Or.inr ⟨Nat.le_of_ble_eq_true rfl, Nat.le_of_ble_eq_true rfl⟩
  have hnr : ∀ r, ¬ refd (fun _ _ => 0) j r := by
    intro r hr
    unfold refd at hr
    rw [hk] at hr
    rcases hr with ⟨h, -⟩ | ⟨h, -⟩ | ⟨h, -⟩ <;> simp at h
  have hq : gad (gj G (fun _ => q, [j], G.2.2)) j = q := by show (if j ∈ [j] then _ else _) = _; rw [if_pos (by simp)]; rfl
  have hP2 := vp_ext (X := X) (P := fun w => va_P (gDz (xG X)) vwCl w H1) ht hkj hnr he hj hji hcl hdn hP1
  have hD2 := vp_ext (X := X) (P := fun w => va_D (xA X) w) ht hkj hnr he hj hji hcl hdn hD1
  have := kk (gj G (fun _ => q, [j], G.2.2)) ht rfl (fun r hr => by show (if r ∈ [j] then _ else _) = _; rw [if_neg (by rw [List.mem_singleton]; intro z; exact hj (z ▸ hr))]) H1 locs la hl hP2 hD2 hS1
  unfold vr at this
  rw [hq] at this
  exact this
theorem p_putR (hX : Gd X own cc nL ret lv) (hp : PX X mc ms) {f idx off j N : Nat} {C : String} {T : u_T} {ty : Nat → FieldType} (d : decode cc pc = .ok (.putfield idx, 3)) (hc : vwCl[ci]? = some (C, T, N)) (hf : f < N) (hC : (T f).1 = own) (hCo : C = own) (hw : Cond.fieldLink own idx C (T f).2.1 (T f).2.2.1 ∈ WS) (hin : ∀ w ∈ u_ws C T N, w ∈ WS) (hty : ∀ k, k < N → parseFieldDescriptor (T k).2.2.1 = some (ty k)) (hnm : ∀ a, a < N → ∀ b, b < N → a ≠ b → (T a).2.1 ≠ (T b).2.1) (hfin : (T f).2.2.2 = true) (hnar : ∀ a : Nat, narrow (ty f) (.ref a) = .ref a ∧ fits (ty f) (.ref a) = true) (ho : (fspT.getD ci [])[f]? = some (some off)) (hj : i + off = j) (kk : VP X G h0 i ci (f :: dn) k n Q (pc + 3) ls st M) : VP X G h0 i ci dn k n Q pc ls (vr G j :: .ref h0 :: st) M := by
  subst hj
  intro H locs la hl hP hD hS
  refine va_putF (D := gDz (xG X)) (C := C) (T := T) (N := N) (ci := ci) (fs := pfl G M i ci dn) (ref := C) (ty := ty f) (v := vr G (i + off)) hX.1 hX.2.1 hX.2.2.2.2.1 hin ty hty hnm hX.2.2.2.1 hX.2.2.2.2.2.2.2.1 hP hD hS 0 rfl hc f hf (hX.2.2.2.2.1 _ hw) (fun x hx => by rw [hC] at hx; rw [hCo]; exact hx) hfin hp.2.1 hC (hty f hf) (hnar _).1 (hnar _).2 (by rw [pfl_len]; exact (List.getElem?_eq_some_iff.mp ho).1) d (fun H1 locs1 hP1 hD1 hS1 => ?_)
  rw [pfl_set ho] at hP1 hD1
  exact kk H1 locs1 la hl hP1 hD1 hS1
theorem p_putI (hX : Gd X own cc nL ret lv) {f idx N : Nat} {v : Int} {C : String} {T : u_T} {ty : Nat → FieldType} (d : decode cc pc = .ok (.putfield idx, 3)) (hc : vwCl[ci]? = some (C, T, N)) (hf : f < N) (hC : (T f).1 = C) (hw : Cond.fieldLink own idx C (T f).2.1 (T f).2.2.1 ∈ WS) (hin : ∀ w ∈ u_ws C T N, w ∈ WS) (hty : ∀ k, k < N → parseFieldDescriptor (T k).2.2.1 = some (ty k)) (hnm : ∀ a, a < N → ∀ b, b < N → a ≠ b → (T a).2.1 ≠ (T b).2.1) (hfin : (T f).2.2.2 = false) (htf : ty f = .int) (ho : (fspT.getD ci [])[f]? = some none) (hiL : i ∉ gL G) (kk : VP X G h0 i ci dn k n Q (pc + 3) ls st (upd2 M i f v)) : VP X G h0 i ci dn k n Q pc ls (vi v :: .ref h0 :: st) M := by
  intro H locs la hl hP hD hS
  have e1 : wl G (upd2 M i f v) = wl G M := by
    unfold wl
    apply List.map_congr_left
    intro r hr
    rw [ent_congr (upd2_ne (fun z : r = i => hiL (z ▸ hr)))]
  refine va_put (D := gDz (xG X)) (C := C) (T := T) (N := N) (ci := ci) (fs := pfl G M i ci dn) (ref := C) (ty := .int) (v := vi v) hX.1 hX.2.1 hX.2.2.2.2.1 hin ty hty hnm hX.2.2.2.1 hX.2.2.2.2.2.2.2.1 hP hD hS 0 rfl hc f hf (hX.2.2.2.2.1 _ hw) (fun x hx => by rw [hC] at hx; exact hx) hfin (by rw [hty f hf, htf]) rfl rfl (by rw [pfl_len]; exact (List.getElem?_eq_some_iff.mp ho).1) d (fun H1 locs1 hP1 hD1 hS1 => ?_)
  rw [pfl_setI ho] at hP1 hD1
  have := kk H1 locs1 la hl
  rw [e1] at this
  exact this hP1 hD1 hS1
theorem p_bast (hX : Gd X own cc nL ret lv) (ht : G.2.2 = (xG X).2.2) {a N j : Nat} {x v : Int} (d : decode cc pc = .ok (.bastore, 1)) (hnd : (gL G).Nodup) (ha : at_ G a 2 N) (hai : i ≠ a) (hb : inb x N) (hj : ix x = j) (kk : VP X G h0 i ci dn k n Q (pc + 1) ls st (upd2 M a j (i_y v))) : VP X G h0 i ci dn k n Q pc ls (vi v :: vi x :: vr G a :: st) M := by
  intro H locs la hl hP hD hS
  subst hj
  obtain ⟨q, hq⟩ := at_k ha
  have hcy : gcy (xG X) 1 = gcy G 1 := by unfold gcy; rw [ht]
  have hc : vp_nar .byte (Int32.ofInt v) = Int32.ofInt (i_y v) := (by unfold i_y; rw [Int32.ofInt_toInt])
  have hw : (wl G M).set q (gad G a, .inl (gcy G 1, N, .inl (upd (fun j => Int32.ofInt (M a j)) (ix x) (vp_nar .byte (Int32.ofInt v))))) = wl G (upd2 M a (ix x) (i_y v)) := by
    refine wl_set hnd hq ?_ (fun j hj => upd2_ne hj)
    rw [ent2 ha.2]
    congr 3
    congr 1
    funext j
    rw [upd2_at]
    unfold upd
    by_cases e : j = ix x
    · rw [if_pos e, if_pos e, hc]
    · rw [if_neg e, if_neg e]
  have e2 : pfl G (upd2 M a (ix x) (i_y v)) i ci dn = pfl G M i ci dn := pfl_ad (upd2_ne hai) (fun _ _ _ _ => rfl)
  refine va_bast (D := gDz (xG X)) (cl := vwCl) (f := fun j => Int32.ofInt (M a j)) hX.1 hX.2.1 hX.2.2.2.2.2.2.2.1 hP hD hS (q + 1) 1 (cA := gcy G 1) (n := N) (by rw [List.getElem?_cons_succ, wl_at M hq, ent2 ha.2]) (by rw [← hcy]; rfl) (inb_vp hb) d (fun H1 locs1 hP1 hD1 hS1 => ?_)
  have hw2 := hw
  unfold ix at hw2
  rw [List.set_cons_succ, hw2] at hP1 hD1
  have := kk H1 locs1 la hl
  rw [e2] at this
  exact this hP1 hD1 hS1
/-- the words of a constructor's call: the class made, the link -/
def NWW (own : String) (idx idx2 : Nat) (m : Mth) (ci' N : Nat) : Prop := ∃ (C : String) (T : u_T) (ty : Nat → FieldType), vwCl[ci']? = some (C, T, N) ∧ (∀ w ∈ u_ws C T N, w ∈ WS) ∧ (∀ k, k < N → parseFieldDescriptor (T k).2.2.1 = some (ty k)) ∧ (∀ j, j < N → defaultValue (ty j) = vp_V (dfl ci') j) ∧ Cond.classLink own idx C ∈ WS ∧ Cond.instantiable C N ∈ WS ∧ Cond.initialized C ∈ WS ∧ MK m 0 ∧ Cond.instanceMethod (mY m) ∈ WS ∧ (mY m).name = "<init>" ∧ mR m = none ∧
  (((own, idx2, (mY m).cls) ∈ nestT ∧ mY m = ⟨(mY m).cls, "<init>", "()V"⟩) ∨ Cond.methodLink own idx2 (mY m) ∈ WS)
/-- new C; dup; C.<init>: at the machine's own level -/
theorem w_new (hX : Gd X own cc nL ret lv) {m : Mth} {lz idx idx2 N mc' ms' i' ci' : Nat} {Ls : List Nat} {Ms : Mem} {B : Nat → Prop} {ws : va_W} (d0 : decode cc pc = .ok (.new idx, 3)) (d3 : decode cc (pc + 3) = .ok (.dup, 1)) (d4 : decode cc (pc + 3 + 1) = .ok (.invokespecial idx2, 3)) (hw : NWW own idx idx2 m ci' N) (hc : Ci (xl X) (xG X) m lz mc' ms' i' ci' Ls Ms) (hlv : Nat.ble (lz + 1) lv = true) (hst : (st.map fun v => v.category).sum + 1 ≤ 8) (hB : ∀ q, (xs X).heap.size ≤ q → B q) (hB0 : ∀ q, B q → gA0 (xG X) q) (hkc : k + 1 + mc' ≤ (xR X).cells) (hnc : n + N + ms' ≤ (xR X).slots)
    {H : Heap} {locs : List Loc} {la : Array Slot} (hl : la.size = (xc X).maxLocals) (hP : va_P (gDz (xG X)) vwCl ws H) (hD : va_D B ws) (hS : va_S B (xs X).heap H locs)
    (kk : ∀ (Gs : Gx) (H1 : Heap) (locs1 : List Loc), Gs.2.2 = (xG X).2.2 → gL Gs = Ls → va_P (gDz (xG X)) vwCl (ws ++ wl Gs Ms) H1 → va_D B (ws ++ wl Gs Ms) → va_S B (xs X).heap H1 locs1 → WX X H1 locs1 (k + 1 + mc') (n + N + ms') Q (F0 (xm X) (pc + 7) la (vr Gs i' :: st))) : WX X H locs k n Q (F0 (xm X) pc la st) := by
  obtain ⟨C, T, ty, w1, w2, w3, w4, w5, w6, w7, w8, w9, w10, w11, w12⟩ := hw
  have hK := hX.2.2.2.2.2.2.2.1
  refine va_new (D := gDz (xG X)) (ci := ci') (fs := dfl ci') (C := C) (T := T) (N := N) hX.1 hX.2.1 hX.2.2.2.2.1 w2 ty w3 hX.2.2.2.1 (hX.2.2.2.2.1 _ w5) (hX.2.2.2.2.1 _ w6) (hX.2.2.2.2.1 _ w7) hK hP hD hS hB w1 w4 (Nat.le_trans (Nat.le_add_right _ _) hkc) (Nat.le_trans (Nat.le_add_right _ _) hnc) d0 (fun q H1 hP1 hD1 hS1 => ?_)
  refine lv_dup hX.1 hX.2.1 d3 rfl ?_
  have hqat := hP1 ws.length (q, .inr (ci', dfl ci')) (by rw [List.getElem?_append_right (Nat.le_refl _)]; simp)
  have hqB : B q := hD1.2 ws.length (q, .inr (ci', dfl ci')) (by rw [List.getElem?_append_right (Nat.le_refl _)]; simp)
  have hqlt : q < H1.size := va_at.lt hqat
  have hcode := w8.1
  have hini := hX.2.2.2.2.1 _ w8.2.1
  have h1 : lz + 1 ≤ lv := Nat.le_of_ble_eq_true hlv
  have h2 := hX.2.2.2.2.2.2.2.2.2.2.1
  have h3 := hX.2.2.2.2.2.2.2.2.2.2.2.1
  have hroom : (rmk lz mc' ms').frames + 1 ≤ (xR X).frames ∧ 8 + (mN m + 11) + (rmk lz mc' ms').locals ≤ (xR X).locals := ⟨Nat.le_trans (show lz + 10 + 1 ≤ lv + 10 by omega) h2, Nat.le_trans (x_room w8.2.2.2.1 h1) h3⟩
  have hpre : PreS (xs X) H1 (va_Pc [.ref q] (fun U => U.heap.size = H1.size ∧ q < H1.size ∧ gSz (xG X) ≤ q ∧ Wd (gO (xG X)) (fun _ _ => 0) U ∧ va_at (gDz (xG X)) vwCl (q, .inr (ci', dfl ci')) U.heap)) (.ref q :: []) := by
    refine ⟨fun a U g mk z => ⟨z.1, z.2.1, z.2.2.1, z.2.2.2.1, z.2.2.2.2.1.same rfl rfl, z.2.2.2.2.2⟩, fun U hU hW => ⟨rfl, by rw [hU], hqlt, hB0 q hqB, ?_, by rw [hU]; exact hqat⟩⟩
    refine ⟨fun k z hz => by simp [wl, gO, gL] at hz, va_K.moved hW.alike hK, ⟨fun a b p z hz => by simp [wl, gO, gL] at hz, fun a z hz => by simp [wl, gO, gL] at hz⟩, by rw [hU]; exact Nat.le_trans hX.2.2.2.2.2.2.2.2.2.1 hS1.1, ?_⟩
    exact hX.2.2.2.2.2.2.2.2.2.2.2.2.1.step hW (S_mono hB0 hS1) hU
  have hrun : va_Run (xp X) (xl X) (xe X) (xR X) (xs X) (xm X) (xa X) (xb X) (xt X) (xc X) H1 locs (k + 1) (n + N) mc' ms' (F0 (xm X) (pc + 3 + 1) la (.ref q :: .ref q :: st)) (.ref q :: st) (QC q i' (xG X).2.2 Ls Ms (Value.ref q :: []).toArray) (fun z => z = q ∨ H1.size ≤ z) := by
    rcases w12 with ⟨g1, g2⟩ | g1
    · have hN := hX.2.2.2.2.2.2.2.2.2.2.2.2.1.2.2.2.2.2.2.2.1 _ g1
      rw [show (⟨(own, idx2, (mY m).cls).2.2, "<init>", "()V"⟩ : MethodName) = mY m from g2.symm] at hN
      have cw := va_cnB (R := xR X) (rm := rmk lz mc' ms') (mc := mc') (ms := ms') 0 hX.2.2.2.2.1 (ws_good_in hcode) rfl rfl rfl hN hini w8.2.2.1 hroom
      rw [w11] at cw
      exact va_runIN (As := []) (n := 0) ⟨hX.1, hX.2.1, hX.2.2.1, hX.2.2.2.1, hX.2.2.2.2.1⟩ (hc q H1.size) ⟨cw, w10, hX.2.2.2.2.1 _ w9⟩ hpre rfl rfl (hl.trans hX.2.2.1) rfl (lv_room (by simp only [List.map_cons, List.sum_cons]; show 1 + _ ≤ 8; omega)) d4 ⟨hkc, hnc⟩
    · have cw := callB_of (R := xR X) (rm := rmk lz mc' ms') (mc := mc') (ms := ms') 0 hX.2.2.2.2.1 (ws_good_in hcode) rfl rfl rfl hini (hX.2.2.2.2.1 _ g1) w8.2.2.1 hroom
      rw [w11] at cw
      exact va_runI (As := []) (n := 0) ⟨hX.1, hX.2.1, hX.2.2.1, hX.2.2.2.1, hX.2.2.2.2.1⟩ (hc q H1.size) ⟨cw, w10, hX.2.2.2.2.1 _ w9⟩ hpre rfl rfl (hl.trans hX.2.2.1) rfl (lv_room (by simp only [List.map_cons, List.sum_cons]; show 1 + _ ≤ 8; omega)) d4 ⟨hkc, hnc⟩
  intro U hU XU
  obtain ⟨v, st₀, t, T', L, g0, X', hL, e1, e2, ⟨⟨hv, Gs, a1, a2, a3, a4, a5⟩, hz, hk⟩, stp⟩ := hrun U hU XU
  cases hv
  rw [g0] at hz hk a5
  have hkeep : ∀ z : Nat, z < H1.size → z ≠ q → t.heap[z]? = H1[z]? := fun z c1 c2 => hk z c1 (fun c3 => c3.elim c2 (fun c4 => absurd c4 (Nat.not_le.mpr c1)))
  have hPw : va_P (gDz (xG X)) vwCl ws t.heap := by
    intro a z hz1
    have hz2 : (ws ++ [(q, Sum.inr (ci', dfl ci'))])[a]? = some z := by
      rw [List.getElem?_append_left (List.getElem?_eq_some_iff.mp hz1).1]; exact hz1
    have c1 := hP1 a z hz2
    refine c1.kept (hkeep _ (va_at.lt c1) ?_)
    intro e3
    have := hD1.1 a ws.length z (q, .inr (ci', dfl ci')) hz2 (by rw [List.getElem?_append_right (Nat.le_refl _)]; simp) e3
    have hlt := (List.getElem?_eq_some_iff.mp hz1).1
    omega
  have hGD : gDz Gs = gDz (xG X) := by unfold gDz; rw [a1]
  have hPs : va_P (gDz (xG X)) vwCl (wl Gs Ms) t.heap := by rw [← hGD]; exact a4.1
  have hsB : ∀ z, gA Gs z → B z := by
    rintro z ⟨j, hj, e3⟩
    rw [a2] at hj
    rcases a5 j hj with c1 | c1
    · rw [← e3, c1]; exact hqB
    · rw [← e3]; exact hB _ (Nat.le_trans (Nat.le_trans hS1.1 c1) (Nat.le_refl _))
  have hDw : va_D B ws := ⟨fun a b p z h1 h2 h3 => hD1.1 a b p z (by rw [List.getElem?_append_left (List.getElem?_eq_some_iff.mp h1).1]; exact h1) (by rw [List.getElem?_append_left (List.getElem?_eq_some_iff.mp h2).1]; exact h2) h3, fun a z h1 => hD1.2 a z (by rw [List.getElem?_append_left (List.getElem?_eq_some_iff.mp h1).1]; exact h1)⟩
  have hDs : va_D B (wl Gs Ms) := D_mono hsB a4.2.2.1
  have hDa : va_D B (ws ++ wl Gs Ms) := by
    refine va_D.app hDw hDs ?_
    intro a b p z h1 h2 h3
    have hz2 : (ws ++ [(q, Sum.inr (ci', dfl ci'))])[a]? = some p := by
      rw [List.getElem?_append_left (List.getElem?_eq_some_iff.mp h1).1]; exact h1
    have hplt := va_at.lt (hP1 a p hz2)
    have hpq : p.1 ≠ q := by
      intro e3
      have := hD1.1 a ws.length p (q, .inr (ci', dfl ci')) hz2 (by rw [List.getElem?_append_right (Nat.le_refl _)]; simp) e3
      have hlt := (List.getElem?_eq_some_iff.mp h1).1
      omega
    obtain ⟨j, hj, e4⟩ := a4.2.2.1.2 b z h2
    rw [a2] at hj
    rcases a5 j hj with c1 | c1
    · exact hpq (h3.trans (e4.symm.trans c1))
    · rw [← e4] at h3; omega
  have hS2 : va_S B (xs X).heap T'.heap (locs ++ L) := ⟨Nat.le_trans hS1.1 (by rw [e1]; exact hz), fun z c1 c2 => by
      rw [e1, hkeep z (Nat.lt_of_lt_of_le c1 hS1.1) (fun e3 => c2 (e3 ▸ hqB))]
      exact hS1.2.1 z c1 c2, fun z hz1 => by
      rcases List.mem_append.mp hz1 with h | h
      · exact hS1.2.2 z h
      · rcases hL z h with h5 | h5
        · rw [h5]; exact hqB
        · exact hB _ (Nat.le_trans hS1.1 h5)⟩
  have kk2 := kk Gs T'.heap (locs ++ L) a1 a2 (by rw [e1]; exact va_P.app hPw hPs) hDa hS2
  unfold vr at kk2
  rw [a3] at kk2
  obtain ⟨t2, b1, b2⟩ := kk2 T' rfl X'
  exact ⟨t2, stp t2 b1, b2⟩
theorem p_new (hX : Gd X own cc nL ret lv) (hp : PX X mc ms) (ht : G.2.2 = (xG X).2.2) {m : Mth} {lz idx idx2 N mc' ms' i' ci' : Nat} {Ls : List Nat} {Ms : Mem} (d0 : decode cc pc = .ok (.new idx, 3)) (d3 : decode cc (pc + 3) = .ok (.dup, 1)) (d4 : decode cc (pc + 3 + 1) = .ok (.invokespecial idx2, 3)) (hw : NWW own idx idx2 m ci' N) (hc : Ci (xl X) (xG X) m lz mc' ms' i' ci' Ls Ms) (hlv : Nat.ble (lz + 1) lv = true) (hst : (st.map fun v => v.category).sum + 1 ≤ 8) (hkc : k + 1 + mc' ≤ mc) (hnc : n + N + ms' ≤ ms) (hdis : ∀ r ∈ gL G, r ∉ Ls) (hiL : i ∉ Ls) (hi' : i' ∈ Ls) (hcl : CL G M) (hcs : ∀ Gs : Gx, gL Gs = Ls → CL Gs Ms) (hdn : DNI G i ci dn)
    (kk : ∀ G1 : Gx, G1.2.2 = (xG X).2.2 → gL G1 = gL G ++ Ls → (∀ r ∈ gL G, gad G1 r = gad G r) → VP X G1 h0 i ci dn (k + 1 + mc') (n + N + ms') Q (pc + 7) ls (vr G1 i' :: st) (mj M Ms Ls)) : VP X G h0 i ci dn k n Q pc ls st M := by
  intro H locs la hl hP hD hS
  refine w_new hX d0 d3 d4 hw hc hlv hst hp.1 hX.2.2.2.2.2.2.2.2.2.2.2.2.2.2.2 (by rw [hp.2.2.1]; exact hkc) (by rw [hp.2.2.2]; exact hnc) hl.1 hP hD hS (fun Gs H1 locs1 a1 a2 hP1 hD1 hS1 => ?_)
  have e1 : wl (gj G Gs) (mj M Ms Ls) = wl G M ++ wl Gs Ms := by
    have := wl_gj (G := G) (Gs := Gs) (M := M) (Ms := Ms) (a1.trans ht.symm) (fun r hr => by rw [a2]; exact hdis r hr) hcl (hcs Gs a2)
    rw [a2] at this
    exact this
  have e2 : pfl (gj G Gs) (mj M Ms Ls) i ci dn = pfl G M i ci dn := by
    refine pfl_ad ?_ ?_
    · show (if i ∈ Ls then _ else _) = _
      rw [if_neg hiL]
    · intro k off hk hd
      show (if i + off ∈ gL Gs then _ else _) = _
      rw [if_neg (by rw [a2]; exact hdis _ (hdn k off hk hd))]
  have e3 : gad (gj G Gs) i' = gad Gs i' := by
    show (if i' ∈ gL Gs then _ else _) = _
    rw [if_pos (by rw [a2]; exact hi')]
  have := kk (gj G Gs) ht (by show gL G ++ gL Gs = _; rw [a2]) (fun r hr => by show (if r ∈ gL Gs then _ else _) = _; rw [if_neg (by rw [a2]; exact hdis r hr)]) H1 locs1 la hl (by rw [e1, e2]; exact hP1) (by rw [e1, e2]; exact hD1) hS1
  unfold vr at this ⊢
  rw [e3] at this
  exact this
theorem rot_P {D : va_G} {cl : List vw_C} {x : Nat × va_E} {l : va_W} {H : Heap} (h : va_P D cl (x :: l) H) : va_P D cl (l ++ [x]) H := va_P.app (fun k q hk => h (k + 1) q (by rw [List.getElem?_cons_succ]; exact hk)) (fun k q hk => by
  cases k with
  | zero => exact h 0 q hk
  | succ k => simp at hk)
theorem rot_D {A : Nat → Prop} {x : Nat × va_E} {l : va_W} (h : va_D A (x :: l)) : va_D A (l ++ [x]) := by
  refine va_D.app ⟨fun a b p q h1 h2 h3 => ?_, fun a q h1 => h.2 (a + 1) q (by rw [List.getElem?_cons_succ]; exact h1)⟩ ⟨fun a b p q h1 h2 h3 => ?_, fun a q h1 => ?_⟩ ?_
  · have := h.1 (a + 1) (b + 1) p q (by rw [List.getElem?_cons_succ]; exact h1) (by rw [List.getElem?_cons_succ]; exact h2) h3
    omega
  · have ha := (List.getElem?_eq_some_iff.mp h1).1
    have hb := (List.getElem?_eq_some_iff.mp h2).1
    simp at ha hb
    omega
  · have ha := (List.getElem?_eq_some_iff.mp h1).1
    simp at ha
    subst ha
    exact h.2 0 q h1
  · intro a b p q h1 h2 h3
    have hb := (List.getElem?_eq_some_iff.mp h2).1
    simp at hb
    subst hb
    have := h.1 (a + 1) 0 p q (by rw [List.getElem?_cons_succ]; exact h1) h2 h3
    omega
theorem GOK_of {G1 : Gx} {M1 : Mem} (hnd : (gL G1).Nodup) (hcl : CL G1 M1) (ha : ∀ r ∈ gL G1, gSz G1 ≤ gad G1 r) : GOK G1 := by
  refine ⟨hnd, fun r hr c k off h1 h2 => (hcl r hr).2 _ (Or.inl ⟨by rw [h1]; show 10 ≤ 10 + c; omega, k, off, ?_, rfl⟩), fun r hr h1 j hj => (hcl r hr).2 _ (Or.inr (Or.inl ⟨by rw [h1], j, by rw [h1]; exact hj, rfl⟩)), ha⟩
  rw [h1]
  show (fspT.getD (10 + c - 10) [])[k]? = _
  rw [show 10 + c - 10 = c by omega]
  exact h2
theorem p_abs (hX : Gd X own cc nL ret lv) (ht : G.2.2 = (xG X).2.2) (hall : ∀ (k off : Nat), (fspT.getD ci [])[k]? = some (some off) → k ∈ dn) (hki : kd i = (10 + ci, 0)) (hiL : i ∉ gL G) (hdn : DNI G i ci dn) (hcl : CL G M) (hnd : (gL G ++ [i]).Nodup)
    (kk : ∀ G1 : Gx, G1.2.2 = (xG X).2.2 → gL G1 = gL G ++ [i] → gad G1 i = h0 → (∀ r ∈ gL G, gad G1 r = gad G r) → Gd (xA X, G1, X.2.2) own cc nL ret lv → V (xA X, G1, X.2.2) k n Q pc ls st M) : VP X G h0 i ci dn k n Q pc ls st M := by
  intro H locs la hl hP hD hS
  let G1 : Gx := (fun r => if r = i then h0 else gad G r, gL G ++ [i], G.2.2)
  have hne : ∀ r ∈ gL G, gad G1 r = gad G r := fun r hr => if_neg (fun z : r = i => hiL (z ▸ hr))
  have hgi : gad G1 i = h0 := if_pos rfl
  have hcl1 : CL G1 M := by
    intro r hr
    rcases List.mem_append.mp (show r ∈ gL G ++ [i] from hr) with h | h
    · exact ⟨(hcl r h).1, fun r' h' => List.mem_append_left _ ((hcl r h).2 r' h')⟩
    · rw [List.mem_singleton] at h
      subst h
      refine ⟨by rw [hki]; exact Or.inl (by show 10 ≤ 10 + ci; omega), fun r' h' => ?_⟩
      rcases h' with ⟨-, k, off, h2, rfl⟩ | ⟨h2, -⟩ | ⟨h2, -⟩
      · rw [hki] at h2
        have h3 : (fspT.getD ci [])[k]? = some (some off) := by
          rw [show (10 + ci, 0).1 - 10 = ci by show 10 + ci - 10 = ci; omega] at h2
          exact h2
        exact List.mem_append_left _ (hdn k off h3 (hall k off h3))
      · rw [hki] at h2; have : 10 + ci = 5 := h2; omega
      · rw [hki] at h2; have : 10 + ci = 6 := h2; omega
  have e1 : wl G1 M = wl G M ++ [(h0, .inr (ci, pfl G M i ci dn))] := by
    unfold wl
    show (gL G ++ [i]).map _ = _
    rw [List.map_append]
    congr 1
    · apply List.map_congr_left
      intro r hr
      rw [hne r hr, ent_ad (G := G) (G' := G1) (hcl r hr).1 rfl (fun r' h' => hne r' ((hcl r hr).2 r' h'))]
    · show [(gad G1 i, ent G1 M i)] = _
      rw [hgi, entO hki, pfl_all hall]
      have e2 : flds G1 M i ci = flds G M i ci := by
        unfold flds
        apply List.ext_getElem?
        intro k
        rw [List.getElem?_mapIdx, List.getElem?_mapIdx]
        cases hq : (fspT.getD ci [])[k]? with
        | none => rfl
        | some o => cases o with
          | none => rfl
          | some off => simp only [Option.map_some, fv, vr]; rw [hne _ (hdn k off hq (hall k off hq))]
      rw [e2]
  have hP1 : va_P (gDz (xG X)) vwCl (wl G1 M) H := by rw [e1]; exact rot_P hP
  have hD1 : va_D (xA X) (wl G1 M) := by rw [e1]; exact rot_D hD
  have hsub : ∀ q, gA G1 q → xA X q := by
    rintro q ⟨r, hr, rfl⟩
    obtain ⟨k, hk⟩ := List.getElem?_of_mem hr
    exact hD1.2 k _ (wl_at M hk)
  have hS0 : gSz G1 = gSz (xG X) := by show G.2.2.1 = _; rw [ht]; rfl
  have hGD : gDz G1 = gDz (xG X) := by show G.2.2.2.1 = _; rw [ht]; rfl
  have hA0 : ∀ q, xA X q → gA0 G1 q := fun q h => by show gSz G1 ≤ q; rw [hS0]; exact hX.2.2.2.2.2.2.2.2.2.2.2.2.2.2.2 q h
  have hgok : GOK G1 := GOK_of hnd hcl1 (fun r hr => hA0 _ (hsub _ ⟨r, hr, rfl⟩))
  have hty : tys G1 = tys (xG X) := by
    have : gcy G1 = gcy (xG X) := by show G.2.2.2.2.1 = _; rw [ht]; rfl
    unfold tys
    rw [this]
  have hST : STf G1 (xs X) := by
    have h := hX.2.2.2.2.2.2.2.2.2.2.2.2.1
    have ea : gA0 G1 = gA0 (xG X) := by unfold gA0; rw [hS0]
    have eb : gsK G1 = gsK (xG X) := by show G.2.2.2.2.2.1 = _; rw [ht]; rfl
    have ec : gsV G1 = gsV (xG X) := by show G.2.2.2.2.2.2 = _; rw [ht]; rfl
    unfold STf at h ⊢
    rw [ea, eb, ec]
    exact h
  have hGd : Gd (xA X, G1, X.2.2) own cc nL ret lv := ⟨hX.1, hX.2.1, hX.2.2.1, hX.2.2.2.1, hX.2.2.2.2.1, hX.2.2.2.2.2.1, hX.2.2.2.2.2.2.1, by show va_K (gDz G1) vwCl (tys G1) (xs X); rw [hGD, hty]; exact hX.2.2.2.2.2.2.2.1, hgok, by show gSz G1 ≤ _; rw [hS0]; exact hX.2.2.2.2.2.2.2.2.2.1, hX.2.2.2.2.2.2.2.2.2.2.1, hX.2.2.2.2.2.2.2.2.2.2.2.1, hST, hX.2.2.2.2.2.2.2.2.2.2.2.2.2.1, hsub, hA0⟩
  exact kk G1 ht rfl hgi hne hGd H locs la hl (by show va_P (gDz G1) vwCl (wl G1 M) H; rw [hGD]; exact hP1) hD1 hS
/-- a constructor's own end -/
theorem x_cret (hX : Gd X own cc nL none lv) {T : Nat × va_G × (Nat → ClassId) × (Nat → Nat) × (Nat → Nat)} (hT : (xG X).2.2 = T) (hh : gad (xG X) i = h0) (hA : ∀ q, xA X q → q = h0 ∨ (xs X).heap.size ≤ q) {Ls : List Nat} (hL : gL (xG X) = Ls) (d : decode cc pc = .ok (.return_, 1)) (hk : k ≤ mc) (hn : n ≤ ms) {sz : Nat} (hsz : (xs X).heap.size = sz) : V X k n (MQ (xb X) (QC h0 i T Ls M) (xa X) (xs X) mc ms (fun q => q = h0 ∨ sz ≤ q)) pc ls [] M := by
  intro H locs la hl' hP hD hS
  subst hT; subst hL; subst hsz
  refine W.widen (k := mc) (n := ms) hk hn ?_
  have hS' := S_mono hA hS
  exact W.vret hX.1 hX.2.1 hX.2.2.2.2.2.2.1 (fun t ht hW => ⟨⟨rfl, xG X, rfl, rfl, hh, x_wd hX hP hD hS ht hW, fun j hj => hA _ (hX.2.2.2.2.2.2.2.2.2.2.2.2.2.2.1 _ ⟨j, hj, rfl⟩)⟩, hS'.F ht⟩) hS'.2.2 d hX.2.2.2.2.2.1
/-- a constructor's contract out of the walk of its body -/
theorem Ci_of {l : Launch} {G : Gx} {m : Mth} {lv mc ms i ci : Nat} {Ls : List Nat} {Ms : Mem} (hl : l.stackTraces = false) (hm : MK m 0) (hn1 : (mY m).name = "<init>") {own : String} (ho : own = (mY m).cls) {cc : ByteArray} (hcc : mC m = cc) {nL : Nat} (hnL : mN m = nL) (hnL1 : 1 ≤ nL) (hret : mR m = none) {C : vw_C} (hcl : vwCl[ci]? = some C)
    (body : ∀ (X : Cxt) (h0 : Nat), xG X = gO G → xl X = l → Gd X own cc nL none lv → PX X mc ms → (∀ q, xA X q → q = h0 ∨ (xs X).heap.size ≤ q) → VP X (gO G) h0 i ci [] 0 0 (MQ (xb X) (QC h0 i G.2.2 Ls Ms) (xa X) (xs X) mc ms (fun q => q = h0 ∨ (xs X).heap.size ≤ q)) 0 (some (.ref h0) :: List.replicate (nL - 1) none) [] (fun _ _ => 0)) : Ci l G m lv mc ms i ci Ls Ms := by
  subst ho; subst hcc; subst hnL
  intro h0 sz
  refine Met.ofW (cc := mC m) (maxL := mN m) (ret := mR m) hm.2.2.2.2 rfl ?_
  intro p e s md args below meth c s₁ B hml hv
  obtain ⟨rfl, rfl, h1, h2, ⟨hP, hK, hD, hsz, hST⟩, hat⟩ := hv
  have hts0 := atoms_spec (ws := wsM m) B.pre
  have hts : ∀ w ∈ WS, w.before #[Value.ref h0] s = true := fun w hw => hts0 w (List.mem_cons_of_mem _ hw)
  have hin : meth.name = "<init>" := by rw [(name_of_methodNamed B.named B.method).1]; exact hn1
  have hgo : GOK (gO G) := ⟨List.nodup_nil, fun r hr => (List.not_mem_nil hr).elim, fun r hr => (List.not_mem_nil hr).elim, fun r hr => (List.not_mem_nil hr).elim⟩
  have hb := body (fun q => q = h0 ∨ s.heap.size ≤ q, gO G, p, l, e, (headSpec (wsM m) (rmk lv mc ms)).room, s, md, #[Value.ref h0], below, meth, c) h0 rfl rfl ⟨B.exec, B.bytes, hml, findClass_of_methodNamed B.named, hts, B.notSynchronized, by rw [← hret]; exact B.returns, hK, hgo, hsz, Nat.le_refl _, Nat.le_refl _, hST, hl, fun q hq => (by obtain ⟨r, hr, -⟩ := hq; cases hr), fun q hq => hq.elim (fun z => by rw [z]; exact h2) (fun z => Nat.le_trans hsz z)⟩ ⟨fun q hq => Or.inr hq, hin, rfl, rfl⟩ (fun q hq => hq)
  show W p l e _ s md ([Value.ref h0] : List Value).toArray below meth c s.heap [] 0 0 _ (entryFrame md ([Value.ref h0] : List Value).toArray (mN m))
  rw [lg_entry_eq]
  have hLV := LV.entry [Value.ref h0] (mN m) (fun v hv => by rw [List.mem_singleton] at hv; subst hv; rfl) hnL1
  refine hb s.heap [] _ (by rw [hml]; exact hLV) ?_ ?_ va_S.rf
  · intro k q hk
    cases k with
    | zero =>
      cases hk
      show va_at _ _ (h0, .inr (ci, pfl (gO G) (fun _ _ => 0) i ci [])) _
      rw [pfl_dfl (fun _ => rfl)]
      exact hat
    | succ k => simp [wl, gO, gL] at hk
  · refine ⟨fun a b p q hp hq _ => ?_, fun a q hq => ?_⟩
    · have ha := (List.getElem?_eq_some_iff.mp hp).1
      have hb := (List.getElem?_eq_some_iff.mp hq).1
      simp [wl, gO, gL] at ha hb
      omega
    · cases a with
      | zero => cases hq; exact Or.inl rfl
      | succ a => simp [wl, gO, gL] at hq
theorem p_anew (hX : Gd X own cc nL ret lv) (hp : PX X mc ms) (ht : G.2.2 = (xG X).2.2) {j idx : Nat} {c : Int} (d : decode cc pc = .ok (.anewarray idx, 3)) (hw : Cond.classLink own idx "PickHall$Hall" ∈ WS) (hk : kd j = (6, 2)) (hc : ¬ Int32.ofInt c < 0 ∧ (Int32.ofInt c).toNatClampNeg = 2) (hj : j ∉ gL G) (hji : i ≠ j) (hcl : CL G M) (hdn : DNI G i ci dn) (hkc : k + 1 ≤ mc) (hnc : n + 2 ≤ ms)
    (kk : ∀ G1 : Gx, G1.2.2 = (xG X).2.2 → gL G1 = gL G ++ [j] → (∀ r ∈ gL G, gad G1 r = gad G r) → VP X G1 h0 i ci dn (k + 1) (n + 2) Q (pc + 3) ls (vr G1 j :: st) (mj M (fun _ _ => 0) [j])) : VP X G h0 i ci dn k n Q pc ls (vi c :: st) M := by
  intro H locs la hl hP hD hS
  have hT := hX.2.2.2.2.2.2.2.2.2.2.2.2.1.2.2.2.2.2.2
  refine va_newq (D := gDz (xG X)) (cl := vwCl) (C := "PickHall$Hall") hX.1 hX.2.1 hX.2.2.2.1 (hX.2.2.2.2.1 _ hw) hT.2.2.2.2.1 hX.2.2.2.2.2.2.2.1 hP hD hS hp.1 hc.1 hc.2 (by decide) (by rw [hp.2.2.1]; exact hkc) (by rw [hp.2.2.2]; exact hnc) d (fun q cA H1 hK1 hP1 hD1 hS1 => ?_)
  have hcA : cA = gcy (xG X) 5 := cy_eq hX (t0 := 5) rfl hK1
  subst hcA
  have hcy : gcy (xG X) 5 = (G.2.2.2.2.1) 5 := by rw [ht]; rfl
  have he : ent (fun _ => q, [j], G.2.2) (fun _ _ => 0) j = .inl (gcy (xG X) 5, 2, .inr (.inr (.inr (.inr (fun _ => none))))) := by
    rw [ent6 hk, hcy]
    rfl
  have hkj : 10 ≤ (kd j).1 ∨ (kd j).1 ≤ 6 ∧ 1 ≤ (kd j).1 := by rw [hk]; exact Or.inr ⟨Nat.le_of_ble_eq_true rfl, Nat.le_of_ble_eq_true rfl⟩
  have hnr : ∀ r, ¬ refd (fun _ _ => 0) j r := by
    intro r hr
    unfold refd at hr
    rw [hk] at hr
    rcases hr with ⟨h, -⟩ | ⟨h, -⟩ | ⟨-, j', h, -⟩
    · simp at h
    · simp at h
    · exact h rfl
  have hq : gad (gj G (fun _ => q, [j], G.2.2)) j = q := by show (if j ∈ [j] then _ else _) = _; rw [if_pos (by simp)]; rfl
  have hP2 := vp_ext (X := X) (P := fun w => va_P (gDz (xG X)) vwCl w H1) ht hkj hnr he hj hji hcl hdn hP1
  have hD2 := vp_ext (X := X) (P := fun w => va_D (xA X) w) ht hkj hnr he hj hji hcl hdn hD1
  have := kk (gj G (fun _ => q, [j], G.2.2)) ht rfl (fun r hr => by show (if r ∈ [j] then _ else _) = _; rw [if_neg (by rw [List.mem_singleton]; intro z; exact hj (z ▸ hr))]) H1 locs la hl hP2 hD2 hS1
  unfold vr at this
  rw [hq] at this
  exact this
/-- new int[8][3] at the ids j .. j + 8 -/
theorem p_mna (hX : Gd X own cc nL ret lv) (hp : PX X mc ms) (ht : G.2.2 = (xG X).2.2) {j idx : Nat} {Ls : List Nat} (d : decode cc pc = .ok (.multianewarray idx 2, 4)) (hw : Cond.classLink own idx "[[I" ∈ WS) (hwa : Cond.arrayClass .int ∈ WS) (hLs : j :: (List.range 8).map (fun t => j + 1 + t) = Ls) (hk : kd j = (5, 8)) (hk1 : ∀ t, t < 8 → kd (j + 1 + t) = (1, 3)) (hdis : ∀ r ∈ gL G, r ∉ Ls) (hiL : i ∉ Ls) (hcl : CL G M) (hcs : ∀ Gs : Gx, gL Gs = Ls → CL Gs (fun _ _ => 0)) (hdn : DNI G i ci dn) (hkc : k + 9 ≤ mc) (hnc : n + 32 ≤ ms)
    (kk : ∀ G1 : Gx, G1.2.2 = (xG X).2.2 → gL G1 = gL G ++ Ls → (∀ r ∈ gL G, gad G1 r = gad G r) → VP X G1 h0 i ci dn (k + 1 + 8) (n + 8 + 24) Q (pc + 4) ls (vr G1 j :: st) (mj M (fun _ _ => 0) Ls)) : VP X G h0 i ci dn k n Q pc ls (vi 3 :: vi 8 :: st) M := by
  intro H locs la hl hP hD hS
  subst hLs
  have hT := hX.2.2.2.2.2.2.2.2.2.2.2.2.1.2.2.2.2.2.2
  have hcyI : (xs X).vm.findClass (FieldType.array .int).toString = some (gcy (xG X) 0) := (hX.2.2.2.2.2.2.2.1.2 0 _ rfl).2
  refine va_mna (D := gDz (xG X)) (cl := vwCl) (X := (h0, .inr (ci, pfl G M i ci dn)) :: wl G M) (L := []) (f := fun _ => .inr (0, [])) (ty := .int) (cy := gcy (xG X) 0) (N' := 8) (K' := 3) (z := (3, .inl (fun _ => Int32.ofInt 0))) hX.1 hX.2.1 hX.2.2.2.1 (hX.2.2.2.2.1 _ hw) hT.2.2.2.2.2 (hX.2.2.2.2.1 _ hwa) hcyI hX.2.2.2.2.2.2.2.1 (by show va_P _ _ (_ ++ []) _; rw [List.append_nil]; exact hP) (by show va_D _ (_ ++ []); rw [List.append_nil]; exact hD) hS hp.1 (by decide) (by decide) (by decide) (by decide) (by decide) (by decide) (by decide) rfl rfl (by rw [hp.2.2.1]; exact hkc) (by rw [hp.2.2.2]; exact hnc) (fun c => rfl) d (fun q r cA H1 hinj hrL hK1 hP1 hD1 hS1 => ?_)
  have hcA : cA = gcy (xG X) 4 := cy_eq hX (t0 := 4) rfl hK1
  subst hcA
  let Gs : Gx := (fun t => if t = j then q else r (t - (j + 1)), j :: (List.range 8).map (fun t => j + 1 + t), G.2.2)
  have hcy4 : gcy (xG X) 4 = gcy Gs 4 := by show _ = G.2.2.2.2.1 4; rw [ht]; rfl
  have hcy0 : gcy (xG X) 0 = gcy Gs 0 := by show _ = G.2.2.2.2.1 0; rw [ht]; rfl
  have hw1 : [(q, Sum.inl (gcy (xG X) 4, 8, .inr (.inr (.inr (.inr (fun i => if i < 8 then some (r i) else none))))))] ++ va_pl ([] ++ (List.range 8).map r) (vr_up (fun _ => .inr (0, [])) ((List.range 8).map r) (.inl (gcy (xG X) 0, (3, .inl (fun _ => Int32.ofInt 0))))) = wl Gs (fun _ _ => 0) := by
    unfold wl
    show _ = (j :: (List.range 8).map (fun t => j + 1 + t)).map _
    rw [List.map_cons, List.nil_append]
    show _ :: _ = _ :: _
    congr 1
    · rw [ent5 hk, hcy4]
      have e1 : gad Gs j = q := if_pos rfl
      rw [e1]
      have e2 : (fun i => if i < 8 then some (r i) else none) = (fun t => if t < 8 then some (gad Gs (j + 1 + t)) else none) := by
        funext t
        by_cases h8 : t < 8
        · rw [if_pos h8, if_pos h8]
          have : gad Gs (j + 1 + t) = r (j + 1 + t - (j + 1)) := if_neg (by omega)
          rw [this, show j + 1 + t - (j + 1) = t by omega]
        · rw [if_neg h8, if_neg h8]
      rw [e2]
    · unfold va_pl
      rw [List.map_map, List.map_map]
      apply List.map_congr_left
      intro t ht8
      have h8 := List.mem_range.mp ht8
      show (r t, vr_up _ _ _ (r t)) = (gad Gs (j + 1 + t), ent Gs _ (j + 1 + t))
      have e3 : gad Gs (j + 1 + t) = r (j + 1 + t - (j + 1)) := if_neg (by omega)
      rw [e3, show j + 1 + t - (j + 1) = t by omega, ent1 (hk1 t h8), vr_up_in (List.mem_map.mpr ⟨t, ht8, rfl⟩), hcy0]
  have e1 : wl (gj G Gs) (mj M (fun _ _ => 0) (gL Gs)) = wl G M ++ wl Gs (fun _ _ => 0) := wl_gj (G := G) (Gs := Gs) rfl hdis hcl (hcs Gs rfl)
  have e2 : pfl (gj G Gs) (mj M (fun _ _ => 0) (gL Gs)) i ci dn = pfl G M i ci dn := by
    refine pfl_ad ?_ ?_
    · exact if_neg hiL
    · intro k off hk hd
      exact if_neg (hdis _ (hdn k off hk hd))
  have e3 : gad (gj G Gs) j = q := by
    have e4 : gad (gj G Gs) j = gad Gs j := if_pos (show j ∈ gL Gs from List.mem_cons_self)
    rw [e4]
    exact if_pos rfl
  rw [List.append_assoc, hw1] at hP1 hD1
  have := kk (gj G Gs) ht rfl (fun r' hr => if_neg (hdis r' hr)) H1 locs la hl (show va_P (gDz (xG X)) vwCl ((h0, Sum.inr (ci, pfl (gj G Gs) (mj M (fun _ _ => 0) (gL Gs)) i ci dn)) :: wl (gj G Gs) (mj M (fun _ _ => 0) (gL Gs))) H1 by rw [e1, e2]; exact hP1) (show va_D (xA X) ((h0, Sum.inr (ci, pfl (gj G Gs) (mj M (fun _ _ => 0) (gL Gs)) i ci dn)) :: wl (gj G Gs) (mj M (fun _ _ => 0) (gL Gs))) by rw [e1, e2]; exact hD1) hS1
  unfold vr at this
  rw [e3] at this
  exact this
end VPR
def okk (i : Nat) : Bool := decide (10 ≤ (kd i).1) || (decide ((kd i).1 ≤ 6) && decide (1 ≤ (kd i).1))
def CLb (L : List Nat) : Bool := L.all (fun i => okk i && (if 10 ≤ (kd i).1 then (fspT.getD ((kd i).1 - 10) []).all (fun o => match o with | none => true | some off => L.contains (i + off)) else true) && (if (kd i).1 = 5 then (List.range (kd i).2).all (fun j => L.contains (i + 1 + j)) else true))
theorem CL_of {G : Gx} {M : Mem} {L : List Nat} (hL : gL G = L) (hb : CLb L = true) (h6 : ∀ i ∈ L, (kd i).1 = 6 → ∀ j, M i j = 0) : CL G M := by
  intro i hi
  rw [hL] at hi
  have h := List.all_eq_true.mp hb i hi
  simp only [Bool.and_eq_true] at h
  obtain ⟨⟨h1, h2⟩, h3⟩ := h
  refine ⟨?_, fun r hr => ?_⟩
  · unfold okk at h1
    simp only [Bool.or_eq_true, Bool.and_eq_true, decide_eq_true_eq] at h1
    exact h1
  · rw [hL]
    rcases hr with ⟨q1, k, off, q2, rfl⟩ | ⟨q1, j, q2, rfl⟩ | ⟨q1, j, q2, -⟩
    · rw [if_pos q1] at h2
      have := List.all_eq_true.mp h2 (some off) (List.mem_of_getElem? q2)
      simpa using this
    · rw [if_pos q1] at h3
      have := List.all_eq_true.mp h3 j (List.mem_range.mpr q2)
      simpa using this
    · exact absurd (h6 i hi q1 j) q2
theorem no6 {M : Mem} {L : List Nat} (h : L.all (fun i => decide ((kd i).1 ≠ 6)) = true) : ∀ i ∈ L, (kd i).1 = 6 → ∀ j, M i j = 0 := fun i hi h6 => by
  have := List.all_eq_true.mp h i hi
  simp at this
  exact absurd h6 this
theorem DNI_of {G : Gx} {i ci : Nat} {dn L : List Nat} (hL : gL G = L) (hb : dn.all (fun k => match (fspT.getD ci [])[k]? with | some (some off) => L.contains (i + off) | _ => true) = true) : DNI G i ci dn := by
  intro k off h1 h2
  have := List.all_eq_true.mp hb k h2
  rw [h1] at this
  rw [hL]
  simpa using this
theorem mjz {L : List Nat} : mj (fun _ _ => 0) (fun _ _ => 0) L = fun _ _ => 0 := by
  funext b
  unfold mj
  by_cases h : b ∈ L
  · rw [if_pos h]
  · rw [if_neg h]
theorem nin {G : Gx} {L : List Nat} {j : Nat} (hL : gL G = L) (h : L.contains j = false) : j ∉ gL G := by rw [hL]; intro z; rw [List.contains_iff_mem.mpr z] at h; cases h
theorem dis_of {G : Gx} {L Ls : List Nat} (hL : gL G = L) (h : L.all (fun r => !(Ls.contains r)) = true) : ∀ r ∈ gL G, r ∉ Ls := by
  intro r hr z
  rw [hL] at hr
  have := List.all_eq_true.mp h r hr
  rw [List.contains_iff_mem.mpr z] at this
  cases this
theorem all_of {ci : Nat} {dn : List Nat} (h : (List.range (fspT.getD ci []).length).all (fun k => match (fspT.getD ci [])[k]? with | some (some _) => dn.contains k | _ => true) = true) : ∀ (k off : Nat), (fspT.getD ci [])[k]? = some (some off) → k ∈ dn := by
  intro k off hk
  have := List.all_eq_true.mp h k (List.mem_range.mpr (List.getElem?_eq_some_iff.mp hk).1)
  rw [hk] at this
  simpa using this
