section VROWS2
variable {X : Cxt} {k n : Nat} {Q : State → Prop} {pc : Nat} {ls ls' : List (Option Value)} {st : List Value} {M : Mem} {own : String} {cc : ByteArray} {nL lv : Nat} {ret : Option FieldType}
theorem x_icmp_lt (hX : Gd X own cc nL ret lv) {a b wa wb off : Int} {tgt : Nat} (d : decode cc pc = .ok (.if_icmp .lt off, 3)) (ht : (pc : Int) + off = (tgt : Int)) (ha : w32 a = wa) (hb : w32 b = wb) (ky : wa < wb → V X k n Q tgt ls st M) (kn : ¬ wa < wb → V X k n Q (pc + 3) ls st M) : V X k n Q pc ls (vi b :: vi a :: st) M := by
  intro H locs la hl hP hD hS
  subst ha; subst hb
  refine lv_icmp_lt hX.1 hX.2.1 d ht (fun q => ?_) (fun q => ?_)
  · exact ky (w32_lt.mp q) H locs la hl hP hD hS
  · exact kn (fun z => q (w32_lt.mpr z)) H locs la hl hP hD hS
theorem x_icmp_ge (hX : Gd X own cc nL ret lv) {a b wa wb off : Int} {tgt : Nat} (d : decode cc pc = .ok (.if_icmp .ge off, 3)) (ht : (pc : Int) + off = (tgt : Int)) (ha : w32 a = wa) (hb : w32 b = wb) (ky : wa < wb → V X k n Q (pc + 3) ls st M) (kn : ¬ wa < wb → V X k n Q tgt ls st M) : V X k n Q pc ls (vi b :: vi a :: st) M := by
  intro H locs la hl hP hD hS
  subst ha; subst hb
  refine lv_icmp_ge hX.1 hX.2.1 d ht (fun q => ?_) (fun q => ?_)
  · exact kn (fun z => absurd (w32_lt.mpr z) (fun z2 => absurd (Int32.lt_iff_toInt_lt.mp z2) (Int.not_lt.mpr (Int32.le_iff_toInt_le.mp q)))) H locs la hl hP hD hS
  · exact ky (by have := fun z => q (Int32.le_iff_toInt_le.mpr z); exact Int.not_le.mp this) H locs la hl hP hD hS
theorem x_icmp_gt (hX : Gd X own cc nL ret lv) {a b wa wb off : Int} {tgt : Nat} (d : decode cc pc = .ok (.if_icmp .gt off, 3)) (ht : (pc : Int) + off = (tgt : Int)) (ha : w32 a = wa) (hb : w32 b = wb) (ky : wb < wa → V X k n Q tgt ls st M) (kn : ¬ wb < wa → V X k n Q (pc + 3) ls st M) : V X k n Q pc ls (vi b :: vi a :: st) M := by
  intro H locs la hl hP hD hS
  subst ha; subst hb
  refine lv_icmp_gt hX.1 hX.2.1 d ht (fun q => ?_) (fun q => ?_)
  · exact ky (w32_lt.mp q) H locs la hl hP hD hS
  · exact kn (fun z => q (w32_lt.mpr z)) H locs la hl hP hD hS
theorem x_icmp_le (hX : Gd X own cc nL ret lv) {a b wa wb off : Int} {tgt : Nat} (d : decode cc pc = .ok (.if_icmp .le off, 3)) (ht : (pc : Int) + off = (tgt : Int)) (ha : w32 a = wa) (hb : w32 b = wb) (ky : wb < wa → V X k n Q (pc + 3) ls st M) (kn : ¬ wb < wa → V X k n Q tgt ls st M) : V X k n Q pc ls (vi b :: vi a :: st) M := by
  intro H locs la hl hP hD hS
  subst ha; subst hb
  refine lv_icmp_le hX.1 hX.2.1 d ht (fun q => ?_) (fun q => ?_)
  · exact kn (fun z => absurd z (Int.not_lt.mpr (Int32.le_iff_toInt_le.mp q))) H locs la hl hP hD hS
  · exact ky (by have := fun z => q (Int32.le_iff_toInt_le.mpr z); exact Int.not_le.mp this) H locs la hl hP hD hS
theorem x_icmp_eq (hX : Gd X own cc nL ret lv) {a b wa wb off : Int} {tgt : Nat} (d : decode cc pc = .ok (.if_icmp .eq off, 3)) (ht : (pc : Int) + off = (tgt : Int)) (ha : w32 a = wa) (hb : w32 b = wb) (ky : wa = wb → V X k n Q tgt ls st M) (kn : ¬ wa = wb → V X k n Q (pc + 3) ls st M) : V X k n Q pc ls (vi b :: vi a :: st) M := by
  intro H locs la hl hP hD hS
  subst ha; subst hb
  refine lv_icmp_eq hX.1 hX.2.1 d ht (fun q => ?_) (fun q => ?_)
  · exact ky (w32_eq.mp q) H locs la hl hP hD hS
  · exact kn (fun z => q (w32_eq.mpr z)) H locs la hl hP hD hS
theorem x_icmp_ne (hX : Gd X own cc nL ret lv) {a b wa wb off : Int} {tgt : Nat} (d : decode cc pc = .ok (.if_icmp .ne off, 3)) (ht : (pc : Int) + off = (tgt : Int)) (ha : w32 a = wa) (hb : w32 b = wb) (ky : wa = wb → V X k n Q (pc + 3) ls st M) (kn : ¬ wa = wb → V X k n Q tgt ls st M) : V X k n Q pc ls (vi b :: vi a :: st) M := by
  intro H locs la hl hP hD hS
  subst ha; subst hb
  refine lv_icmp_ne hX.1 hX.2.1 d ht (fun q => ?_) (fun q => ?_)
  · exact kn (fun z => q (w32_eq.mpr z)) H locs la hl hP hD hS
  · exact ky (w32_eq.mp q) H locs la hl hP hD hS
theorem x_if_eq (hX : Gd X own cc nL ret lv) {a wa off : Int} {tgt : Nat} (d : decode cc pc = .ok (.ifCond .eq off, 3)) (ht : (pc : Int) + off = (tgt : Int)) (ha : w32 a = wa) (ky : wa = 0 → V X k n Q tgt ls st M) (kn : ¬ wa = 0 → V X k n Q (pc + 3) ls st M) : V X k n Q pc ls (vi a :: st) M := by
  intro H locs la hl hP hD hS
  subst ha
  have z0 : (0 : Int32).toInt = 0 := rfl
  refine lv_if_eq hX.1 hX.2.1 d ht (fun q => ?_) (fun q => ?_)
  · exact ky (by simp only [Int32.lt_iff_toInt_lt, Int32.le_iff_toInt_le, ← Int32.toInt_inj, gt_iff_lt, ge_iff_le, ne_eq, z0] at q; unfold w32; omega) H locs la hl hP hD hS
  · exact kn (by simp only [Int32.lt_iff_toInt_lt, Int32.le_iff_toInt_le, ← Int32.toInt_inj, gt_iff_lt, ge_iff_le, ne_eq, z0] at q; unfold w32; omega) H locs la hl hP hD hS
theorem x_if_ne (hX : Gd X own cc nL ret lv) {a wa off : Int} {tgt : Nat} (d : decode cc pc = .ok (.ifCond .ne off, 3)) (ht : (pc : Int) + off = (tgt : Int)) (ha : w32 a = wa) (ky : wa = 0 → V X k n Q (pc + 3) ls st M) (kn : ¬ wa = 0 → V X k n Q tgt ls st M) : V X k n Q pc ls (vi a :: st) M := by
  intro H locs la hl hP hD hS
  subst ha
  have z0 : (0 : Int32).toInt = 0 := rfl
  refine lv_if_ne hX.1 hX.2.1 d ht (fun q => ?_) (fun q => ?_)
  · exact kn (by simp only [Int32.lt_iff_toInt_lt, Int32.le_iff_toInt_le, ← Int32.toInt_inj, gt_iff_lt, ge_iff_le, ne_eq, z0] at q; unfold w32; omega) H locs la hl hP hD hS
  · exact ky (by simp only [Int32.lt_iff_toInt_lt, Int32.le_iff_toInt_le, ← Int32.toInt_inj, gt_iff_lt, ge_iff_le, ne_eq, z0] at q; unfold w32; omega) H locs la hl hP hD hS
theorem x_if_lt (hX : Gd X own cc nL ret lv) {a wa off : Int} {tgt : Nat} (d : decode cc pc = .ok (.ifCond .lt off, 3)) (ht : (pc : Int) + off = (tgt : Int)) (ha : w32 a = wa) (ky : wa < 0 → V X k n Q tgt ls st M) (kn : ¬ wa < 0 → V X k n Q (pc + 3) ls st M) : V X k n Q pc ls (vi a :: st) M := by
  intro H locs la hl hP hD hS
  subst ha
  have z0 : (0 : Int32).toInt = 0 := rfl
  refine lv_if_lt hX.1 hX.2.1 d ht (fun q => ?_) (fun q => ?_)
  · exact ky (by simp only [Int32.lt_iff_toInt_lt, Int32.le_iff_toInt_le, ← Int32.toInt_inj, gt_iff_lt, ge_iff_le, ne_eq, z0] at q; unfold w32; omega) H locs la hl hP hD hS
  · exact kn (by simp only [Int32.lt_iff_toInt_lt, Int32.le_iff_toInt_le, ← Int32.toInt_inj, gt_iff_lt, ge_iff_le, ne_eq, z0] at q; unfold w32; omega) H locs la hl hP hD hS
theorem x_if_ge (hX : Gd X own cc nL ret lv) {a wa off : Int} {tgt : Nat} (d : decode cc pc = .ok (.ifCond .ge off, 3)) (ht : (pc : Int) + off = (tgt : Int)) (ha : w32 a = wa) (ky : wa < 0 → V X k n Q (pc + 3) ls st M) (kn : ¬ wa < 0 → V X k n Q tgt ls st M) : V X k n Q pc ls (vi a :: st) M := by
  intro H locs la hl hP hD hS
  subst ha
  have z0 : (0 : Int32).toInt = 0 := rfl
  refine lv_if_ge hX.1 hX.2.1 d ht (fun q => ?_) (fun q => ?_)
  · exact kn (by simp only [Int32.lt_iff_toInt_lt, Int32.le_iff_toInt_le, ← Int32.toInt_inj, gt_iff_lt, ge_iff_le, ne_eq, z0] at q; unfold w32; omega) H locs la hl hP hD hS
  · exact ky (by simp only [Int32.lt_iff_toInt_lt, Int32.le_iff_toInt_le, ← Int32.toInt_inj, gt_iff_lt, ge_iff_le, ne_eq, z0] at q; unfold w32; omega) H locs la hl hP hD hS
theorem x_if_gt (hX : Gd X own cc nL ret lv) {a wa off : Int} {tgt : Nat} (d : decode cc pc = .ok (.ifCond .gt off, 3)) (ht : (pc : Int) + off = (tgt : Int)) (ha : w32 a = wa) (ky : 0 < wa → V X k n Q tgt ls st M) (kn : ¬ 0 < wa → V X k n Q (pc + 3) ls st M) : V X k n Q pc ls (vi a :: st) M := by
  intro H locs la hl hP hD hS
  subst ha
  have z0 : (0 : Int32).toInt = 0 := rfl
  refine lv_if_gt hX.1 hX.2.1 d ht (fun q => ?_) (fun q => ?_)
  · exact ky (by simp only [Int32.lt_iff_toInt_lt, Int32.le_iff_toInt_le, ← Int32.toInt_inj, gt_iff_lt, ge_iff_le, ne_eq, z0] at q; unfold w32; omega) H locs la hl hP hD hS
  · exact kn (by simp only [Int32.lt_iff_toInt_lt, Int32.le_iff_toInt_le, ← Int32.toInt_inj, gt_iff_lt, ge_iff_le, ne_eq, z0] at q; unfold w32; omega) H locs la hl hP hD hS
theorem x_if_le (hX : Gd X own cc nL ret lv) {a wa off : Int} {tgt : Nat} (d : decode cc pc = .ok (.ifCond .le off, 3)) (ht : (pc : Int) + off = (tgt : Int)) (ha : w32 a = wa) (ky : 0 < wa → V X k n Q (pc + 3) ls st M) (kn : ¬ 0 < wa → V X k n Q tgt ls st M) : V X k n Q pc ls (vi a :: st) M := by
  intro H locs la hl hP hD hS
  subst ha
  have z0 : (0 : Int32).toInt = 0 := rfl
  refine lv_if_le hX.1 hX.2.1 d ht (fun q => ?_) (fun q => ?_)
  · exact kn (by simp only [Int32.lt_iff_toInt_lt, Int32.le_iff_toInt_le, ← Int32.toInt_inj, gt_iff_lt, ge_iff_le, ne_eq, z0] at q; unfold w32; omega) H locs la hl hP hD hS
  · exact ky (by simp only [Int32.lt_iff_toInt_lt, Int32.le_iff_toInt_le, ← Int32.toInt_inj, gt_iff_lt, ge_iff_le, ne_eq, z0] at q; unfold w32; omega) H locs la hl hP hD hS
theorem inb_vp {i : Int} {N : Nat} (h : inb i N) : vp_in (Int32.ofInt i) N := by
  obtain ⟨h1, h2⟩ := h
  intro q
  rcases q with q | q
  · have := Int32.lt_iff_toInt_lt.mp q
    have z0 : (0 : Int32).toInt = 0 := rfl
    unfold w32 at h1
    omega
  · have h3 := Int32.toNat_toInt (Int32.ofInt i)
    unfold w32 at h1 h2
    omega
/-- a field's link, by its place in the class's table -/
def FL (own : String) (idx ci f : Nat) : Prop := ∃ (C : String) (T : u_T) (N : Nat), vwCl[ci]? = some (C, T, N) ∧ f < N ∧ (T f).1 = C ∧ Cond.fieldLink own idx C (T f).2.1 (T f).2.2.1 ∈ WS ∧ ∀ w ∈ u_ws C T N, w ∈ WS
/-- .. of an int field that may be written -/
def FP (own : String) (idx ci f : Nat) : Prop := ∃ (C : String) (T : u_T) (N : Nat) (ty : Nat → FieldType), vwCl[ci]? = some (C, T, N) ∧ f < N ∧ (T f).1 = C ∧ Cond.fieldLink own idx C (T f).2.1 (T f).2.2.1 ∈ WS ∧ (∀ w ∈ u_ws C T N, w ∈ WS) ∧
  (∀ k, k < N → parseFieldDescriptor (T k).2.2.1 = some (ty k)) ∧ (∀ a, a < N → ∀ b, b < N → a ≠ b → (T a).2.1 ≠ (T b).2.1) ∧ (T f).2.2.2 = false ∧ ty f = .int
theorem x_get (hX : Gd X own cc nL ret lv) {i ci f idx : Nat} {o : Option Nat} (d : decode cc pc = .ok (.getfield idx, 3)) (hf : FL own idx ci f) (ho : (fspT.getD ci [])[f]? = some o) (hi : at_ (xG X) i (10 + ci) 0) (kk : V X k n Q (pc + 3) ls (fv (xG X) M i f o :: st) M) : V X k n Q pc ls (vr (xG X) i :: st) M := by
  intro H locs la hl hP hD hS
  obtain ⟨C, T, N, h1, h2, h3, h4, h5⟩ := hf
  obtain ⟨q, hq⟩ := at_k hi
  exact va_get (D := gDz (xG X)) (C := C) (T := T) (N := N) (ci := ci) (fs := flds (xG X) M i ci) (ref := C) hX.1 hX.2.1 hX.2.2.2.2.1 h5 hX.2.2.2.1 hX.2.2.2.2.2.2.2.1 hP q (by rw [wl_at M hq, entO hi.2]) h1 f h2 (hX.2.2.2.2.1 _ h4) (fun x hx => by rw [← h3]; exact hx) (flds_at ho) d (kk H locs la hl hP hD hS)
theorem x_getI (hX : Gd X own cc nL ret lv) {i ci f idx : Nat} (d : decode cc pc = .ok (.getfield idx, 3)) (hf : FL own idx ci f) (ho : (fspT.getD ci [])[f]? = some none) (hi : at_ (xG X) i (10 + ci) 0) (kk : V X k n Q (pc + 3) ls (vi (M i f) :: st) M) : V X k n Q pc ls (vr (xG X) i :: st) M := x_get hX d hf ho hi kk
theorem x_getR (hX : Gd X own cc nL ret lv) {i ci f idx off : Nat} (d : decode cc pc = .ok (.getfield idx, 3)) (hf : FL own idx ci f) (ho : (fspT.getD ci [])[f]? = some (some off)) (hi : at_ (xG X) i (10 + ci) 0) (kk : V X k n Q (pc + 3) ls (vr (xG X) (i + off) :: st) M) : V X k n Q pc ls (vr (xG X) i :: st) M := x_get hX d hf ho hi kk
theorem flds_set {G : Gx} {M : Mem} {i ci f : Nat} {v : Int} (ho : (fspT.getD ci [])[f]? = some none) : flds G (upd2 M i f v) i ci = (flds G M i ci).set f (vi v) := by
  apply List.ext_getElem?
  intro j
  rw [List.getElem?_set]
  have hl : f < (flds G M i ci).length := by
    unfold flds
    rw [List.length_mapIdx]
    exact (List.getElem?_eq_some_iff.mp ho).1
  by_cases e : f = j
  · subst e
    rw [if_pos rfl, if_pos hl, flds_at ho]
    simp only [fv, upd2_at, if_true]
  · rw [if_neg e]
    unfold flds
    rw [List.getElem?_mapIdx, List.getElem?_mapIdx]
    have e2 : ¬ j = f := fun q => e q.symm
    congr 1
    funext o
    cases o with
    | none => simp only [fv, upd2_at, if_neg e2]
    | some off => rfl
theorem x_putI (hX : Gd X own cc nL ret lv) {i ci f idx : Nat} {v : Int} (d : decode cc pc = .ok (.putfield idx, 3)) (hf : FP own idx ci f) (ho : (fspT.getD ci [])[f]? = some none) (hi : at_ (xG X) i (10 + ci) 0) (kk : V X k n Q (pc + 3) ls st (upd2 M i f v)) : V X k n Q pc ls (vi v :: vr (xG X) i :: st) M := by
  intro H locs la hl hP hD hS
  obtain ⟨C, T, N, ty, h1, h2, h3, h4, h5, h6, h7, h8, h9⟩ := hf
  obtain ⟨q, hq⟩ := at_k hi
  have hlen : f < (flds (xG X) M i ci).length := by
    unfold flds
    rw [List.length_mapIdx]
    exact (List.getElem?_eq_some_iff.mp ho).1
  have hw : (wl (xG X) M).set q (gad (xG X) i, .inr (ci, (flds (xG X) M i ci).set f (vi v))) = wl (xG X) (upd2 M i f v) := wl_set hX.2.2.2.2.2.2.2.2.1.1 hq (by rw [entO hi.2, flds_set ho]) (fun j hj => upd2_ne hj)
  refine va_put (D := gDz (xG X)) (C := C) (T := T) (N := N) (ci := ci) (fs := flds (xG X) M i ci) (ref := C) (ty := .int) (v := vi v) hX.1 hX.2.1 hX.2.2.2.2.1 h5 ty h6 h7 hX.2.2.2.1 hX.2.2.2.2.2.2.2.1 hP hD hS q (by rw [wl_at M hq, entO hi.2]) h1 f h2 (hX.2.2.2.2.1 _ h4) (fun x hx => by rw [← h3]; exact hx) h8 (by rw [h6 f h2, h9]) rfl rfl hlen d (fun H1 locs1 hP1 hD1 hS1 => ?_)
  rw [hw] at hP1 hD1
  exact kk H1 locs1 la hl hP1 hD1 hS1

theorem x_iald (hX : Gd X own cc nL ret lv) {a N j : Nat} {i : Int} (d : decode cc pc = .ok (.iaload, 1)) (ha : at_ (xG X) a 1 N) (hb : inb i N) (hj : ix i = j) (kk : V X k n Q (pc + 1) ls (vi (M a j) :: st) M) : V X k n Q pc ls (vi i :: vr (xG X) a :: st) M := by
  intro H locs la hl hP hD hS
  subst hj
  obtain ⟨q, hq⟩ := at_k ha
  exact va_iald (D := gDz (xG X)) (cl := vwCl) (f := fun j => Int32.ofInt (M a j)) hX.1 hX.2.1 hX.2.2.2.2.2.2.2.1 hP q 0 (by rw [wl_at M hq, ent1 ha.2]) rfl (inb_vp hb) d (kk H locs la hl hP hD hS)
theorem x_bald (hX : Gd X own cc nL ret lv) {a N j : Nat} {i : Int} (d : decode cc pc = .ok (.baload, 1)) (ha : at_ (xG X) a 2 N) (hb : inb i N) (hj : ix i = j) (kk : V X k n Q (pc + 1) ls (vi (M a j) :: st) M) : V X k n Q pc ls (vi i :: vr (xG X) a :: st) M := by
  intro H locs la hl hP hD hS
  subst hj
  obtain ⟨q, hq⟩ := at_k ha
  exact va_bald (D := gDz (xG X)) (cl := vwCl) (f := fun j => Int32.ofInt (M a j)) hX.1 hX.2.1 hX.2.2.2.2.2.2.2.1 hP q 1 (by rw [wl_at M hq, ent2 ha.2]) rfl (inb_vp hb) d (kk H locs la hl hP hD hS)
theorem x_zald (hX : Gd X own cc nL ret lv) {a N j : Nat} {i : Int} (d : decode cc pc = .ok (.baload, 1)) (ha : at_ (xG X) a 3 N) (hb : inb i N) (hj : ix i = j) (kk : V X k n Q (pc + 1) ls (vi (M a j) :: st) M) : V X k n Q pc ls (vi i :: vr (xG X) a :: st) M := by
  intro H locs la hl hP hD hS
  subst hj
  obtain ⟨q, hq⟩ := at_k ha
  exact va_zald (D := gDz (xG X)) (cl := vwCl) (f := fun j => Int32.ofInt (M a j)) hX.1 hX.2.1 hX.2.2.2.2.2.2.2.1 hP q 2 (by rw [wl_at M hq, ent3 ha.2]) rfl (inb_vp hb) d (kk H locs la hl hP hD hS)
theorem x_iast (hX : Gd X own cc nL ret lv) {a N j : Nat} {i v : Int} (d : decode cc pc = .ok (.iastore, 1)) (ha : at_ (xG X) a 1 N) (hb : inb i N) (hj : ix i = j) (kk : V X k n Q (pc + 1) ls st (upd2 M a j v)) : V X k n Q pc ls (vi v :: vi i :: vr (xG X) a :: st) M := by
  intro H locs la hl hP hD hS
  subst hj
  obtain ⟨q, hq⟩ := at_k ha
  have hc : Int32.ofInt v = Int32.ofInt v := rfl
  have hw : (wl (xG X) M).set q (gad (xG X) a, .inl (gcy (xG X) 0, N, .inl (upd (fun j => Int32.ofInt (M a j)) (ix i) (Int32.ofInt v)))) = wl (xG X) (upd2 M a (ix i) v) := by
    refine wl_set hX.2.2.2.2.2.2.2.2.1.1 hq ?_ (fun j hj => upd2_ne hj)
    rw [ent1 ha.2]
    congr 3
    congr 1
    funext j
    rw [upd2_at]
    unfold upd
    by_cases e : j = ix i
    · rw [if_pos e, if_pos e, hc]
    · rw [if_neg e, if_neg e]
  refine va_iast (D := gDz (xG X)) (cl := vwCl) (f := fun j => Int32.ofInt (M a j)) hX.1 hX.2.1 hX.2.2.2.2.2.2.2.1 hP hD hS q 0 (by rw [wl_at M hq, ent1 ha.2]) rfl (inb_vp hb) d (fun H1 locs1 hP1 hD1 hS1 => ?_)
  have hw2 := hw
  unfold ix at hw2
  rw [hw2] at hP1 hD1
  exact kk H1 locs1 la hl hP1 hD1 hS1
theorem x_bast (hX : Gd X own cc nL ret lv) {a N j : Nat} {i v : Int} (d : decode cc pc = .ok (.bastore, 1)) (ha : at_ (xG X) a 2 N) (hb : inb i N) (hj : ix i = j) (kk : V X k n Q (pc + 1) ls st (upd2 M a j (i_y v))) : V X k n Q pc ls (vi v :: vi i :: vr (xG X) a :: st) M := by
  intro H locs la hl hP hD hS
  subst hj
  obtain ⟨q, hq⟩ := at_k ha
  have hc : vp_nar .byte (Int32.ofInt v) = Int32.ofInt (i_y v) := (by unfold i_y; rw [Int32.ofInt_toInt])
  have hw : (wl (xG X) M).set q (gad (xG X) a, .inl (gcy (xG X) 1, N, .inl (upd (fun j => Int32.ofInt (M a j)) (ix i) (vp_nar .byte (Int32.ofInt v))))) = wl (xG X) (upd2 M a (ix i) (i_y v)) := by
    refine wl_set hX.2.2.2.2.2.2.2.2.1.1 hq ?_ (fun j hj => upd2_ne hj)
    rw [ent2 ha.2]
    congr 3
    congr 1
    funext j
    rw [upd2_at]
    unfold upd
    by_cases e : j = ix i
    · rw [if_pos e, if_pos e, hc]
    · rw [if_neg e, if_neg e]
  refine va_bast (D := gDz (xG X)) (cl := vwCl) (f := fun j => Int32.ofInt (M a j)) hX.1 hX.2.1 hX.2.2.2.2.2.2.2.1 hP hD hS q 1 (by rw [wl_at M hq, ent2 ha.2]) rfl (inb_vp hb) d (fun H1 locs1 hP1 hD1 hS1 => ?_)
  have hw2 := hw
  unfold ix at hw2
  rw [hw2] at hP1 hD1
  exact kk H1 locs1 la hl hP1 hD1 hS1
theorem x_zast (hX : Gd X own cc nL ret lv) {a N j : Nat} {i v : Int} (d : decode cc pc = .ok (.bastore, 1)) (ha : at_ (xG X) a 3 N) (hb : inb i N) (hj : ix i = j) (kk : V X k n Q (pc + 1) ls st (upd2 M a j (i_z v))) : V X k n Q pc ls (vi v :: vi i :: vr (xG X) a :: st) M := by
  intro H locs la hl hP hD hS
  subst hj
  obtain ⟨q, hq⟩ := at_k ha
  have hc : vp_nar .boolean (Int32.ofInt v) = Int32.ofInt (i_z v) := (by unfold i_z; rw [Int32.ofInt_toInt])
  have hw : (wl (xG X) M).set q (gad (xG X) a, .inl (gcy (xG X) 2, N, .inl (upd (fun j => Int32.ofInt (M a j)) (ix i) (vp_nar .boolean (Int32.ofInt v))))) = wl (xG X) (upd2 M a (ix i) (i_z v)) := by
    refine wl_set hX.2.2.2.2.2.2.2.2.1.1 hq ?_ (fun j hj => upd2_ne hj)
    rw [ent3 ha.2]
    congr 3
    congr 1
    funext j
    rw [upd2_at]
    unfold upd
    by_cases e : j = ix i
    · rw [if_pos e, if_pos e, hc]
    · rw [if_neg e, if_neg e]
  refine va_zast (D := gDz (xG X)) (cl := vwCl) (f := fun j => Int32.ofInt (M a j)) hX.1 hX.2.1 hX.2.2.2.2.2.2.2.1 hP hD hS q 2 (by rw [wl_at M hq, ent3 ha.2]) rfl (inb_vp hb) d (fun H1 locs1 hP1 hD1 hS1 => ?_)
  have hw2 := hw
  unfold ix at hw2
  rw [hw2] at hP1 hD1
  exact kk H1 locs1 la hl hP1 hD1 hS1
theorem x_lald (hX : Gd X own cc nL ret lv) {a N j : Nat} {i : Int} (d : decode cc pc = .ok (.laload, 1)) (ha : at_ (xG X) a 4 N) (hb : inb i N) (hj : ix i = j) (kk : V X k n Q (pc + 1) ls (vLz (M a j) :: st) M) : V X k n Q pc ls (vi i :: vr (xG X) a :: st) M := by
  intro H locs la hl hP hD hS
  subst hj
  obtain ⟨q, hq⟩ := at_k ha
  exact va_lald (D := gDz (xG X)) (cl := vwCl) (f := fun j => Int64.ofInt (M a j)) hX.1 hX.2.1 hX.2.2.2.2.2.2.2.1 hP q 3 (by rw [wl_at M hq, ent4 ha.2]) rfl (inb_vp hb) d (kk H locs la hl hP hD hS)
theorem x_last (hX : Gd X own cc nL ret lv) {a N j : Nat} {i v : Int} (d : decode cc pc = .ok (.lastore, 1)) (ha : at_ (xG X) a 4 N) (hb : inb i N) (hj : ix i = j) (kk : V X k n Q (pc + 1) ls st (upd2 M a j v)) : V X k n Q pc ls (vLz v :: vi i :: vr (xG X) a :: st) M := by
  intro H locs la hl hP hD hS
  subst hj
  obtain ⟨q, hq⟩ := at_k ha
  have hw : (wl (xG X) M).set q (gad (xG X) a, .inl (gcy (xG X) 3, N, .inr (.inl (vp_updL (fun j => Int64.ofInt (M a j)) (ix i) (Int64.ofInt v))))) = wl (xG X) (upd2 M a (ix i) v) := by
    refine wl_set hX.2.2.2.2.2.2.2.2.1.1 hq ?_ (fun j hj => upd2_ne hj)
    rw [ent4 ha.2]
    congr 4
    congr 1
    funext j
    rw [upd2_at]
    unfold vp_updL
    by_cases e : j = ix i
    · rw [if_pos e, if_pos e]
    · rw [if_neg e, if_neg e]
  refine va_last (D := gDz (xG X)) (cl := vwCl) (f := fun j => Int64.ofInt (M a j)) hX.1 hX.2.1 hX.2.2.2.2.2.2.2.1 hP hD hS q 3 (by rw [wl_at M hq, ent4 ha.2]) rfl (inb_vp hb) d (fun H1 locs1 hP1 hD1 hS1 => ?_)
  have hw2 := hw
  unfold ix at hw2
  rw [hw2] at hP1 hD1
  exact kk H1 locs1 la hl hP1 hD1 hS1
theorem x_lcmp (hX : Gd X own cc nL ret lv) {a b : Int} (d : decode cc pc = .ok (.lcmp, 1)) (kk : V X k n Q (pc + 1) ls (vi (l_cmp a b) :: st) M) : V X k n Q pc ls (vLz b :: vLz a :: st) M := by
  intro H locs la hl hP hD hS
  refine W.lcmp hX.1 hX.2.1 d ?_
  rw [← vi_toInt]
  exact kk H locs la hl hP hD hS
/-- a row of int rows: the row's own cell -/
theorem ro {G : Gx} (hG : GOK G) {a : Nat} {i : Int} (h : at_ G a 5 8) (hi : inb i 8) : at_ G (a + 1 + ix i) 1 3 := by
  have hx : ix i < 8 := by rw [ix_eq]; obtain ⟨h1, h2⟩ := hi; omega
  have key : ∀ a, a < 196 → kd a = (5, 8) → ∀ j, j < 8 → kd (a + 1 + j) = (1, 3) := by decide +kernel
  exact ⟨hG.2.2.1 a h.1 h.2 (ix i) hx, key a (kd_lt (t := 4) h.2) h.2 (ix i) hx⟩
theorem x_aald2 (hX : Gd X own cc nL ret lv) {a : Nat} {i : Int} (d : decode cc pc = .ok (.aaload, 1)) (ha : at_ (xG X) a 5 8) (hb : inb i 8) (kk : V X k n Q (pc + 1) ls (vr (xG X) (a + 1 + ix i) :: st) M) : V X k n Q pc ls (vi i :: vr (xG X) a :: st) M := by
  intro H locs la hl hP hD hS
  obtain ⟨q, hq⟩ := at_k ha
  have hK := hX.2.2.2.2.2.2.2.1
  have hlt : ix i < 8 := by rw [ix_eq]; obtain ⟨h1, h2⟩ := hb; omega
  have hin := inb_vp hb
  have hcell := hP q _ (by rw [wl_at M hq, ent5 ha.2])
  refine W.aald (v := va_rf (some (gad (xG X) (a + 1 + ix i)))) (ty := .array .int) hX.1 hX.2.1 hcell ((hK.2 4 _ rfl).1 8 (fun j => va_rf (if j < 8 then some (gad (xG X) (a + 1 + j)) else none))) rfl (fun q => by cases q) (by show ¬ (_ < 0 ∨ (arrV _ _ _).slots.size ≤ _); rw [arrV_size]; exact hin) (by show (arrV (gcy (xG X) 4) 8 (fun j => va_rf (if j < 8 then some (gad (xG X) (a + 1 + j)) else none))).slots[ix i]? = _; rw [arrV_read _ _ hlt, if_pos hlt]) rfl rfl d (kk H locs la hl hP hD hS)
end VROWS2
