theorem cl1_id {α : Type} {o : Option α} {r : α} (h : cl1 o (fun y => some y) = some r) : o = some r := by
  cases o with
  | none => cases h
  | some y => exact h
theorem FQ_S4 {M r : Mem} {N : Nat → Int} {x : Int} (h : FQ M r) (hS : S4 N x M) : S4 N x r := by
  unfold S4 at hS ⊢
  rw [h.1 144 (by decide) (by decide), h.1 145 (by decide) (by decide)]
  exact hS
theorem FQ_RA {M r : Mem} {N : Nat → Int} {x : Int} {l : List Nat} (h : FQ M r) (hA : RA M N x l) : RA r N x l := RA_upd hA (fun b hb => h.1 b (by omega) (by omega)) (h.2 8 (by decide) (by decide) (by decide))
/-- frame with the gap's numbers too -/
def FQ9 (M r : Mem) : Prop := FQ M r ∧ ∀ k, k ≠ 14 → r 139 k = M 139 k
theorem X12up {M : Mem} {N : Nat → Int} (hN : M 140 = N) (hW : WF N) {x : Int} (hS : S4 N x M) {a h : Nat} (ha : a < 6) (hh : h ≤ 20) {ls : List Nat} (hs : Sr M ls) (hb : ls.length + (upL N x a h).length ≤ 24) : wp (f_X12_goesUp (a : Int) 1 (h : Int) M) (fun r => FQ9 M r ∧ Sr r (ls ++ upL N x a h)) := by
  unfold f_X12_goesUp
  refine wp_lpb (wp_forI (fun i y => y.1 = ((i + 1 : Nat) : Int) ∧ FQ9 M y.2 ∧ Sr y.2 (ls ++ upL N x a i)) h ?_ ?_ (Nat.zero_le _) ⟨rfl, ⟨FQ.rf, fun _ _ => rfl⟩, by simp only [upL, List.append_nil]; exact hs⟩)
  · rintro i ⟨c, m⟩ hi ⟨k1, k2, k3⟩
    simp only at k1 k2 k3
    subst k1
    have mono := upL_mono (N := N) (x := x) (a := a) (show i + 1 ≤ h by omega)
    simp only [upL, List.length_append] at mono
    have e140 : m 140 = N := by rw [k2.1.1 140 (by decide) (by decide), hN]
    simp only [s_X12_goesUp_3]
    refine wp_ite_f (by ((try simp (disch := omega) only [w32_and, w32_or, w32_shl, w32_shr, w32_xor, ixO, ixO0, ixO1, ixO2, ixO3, ixL0, ixL1, ixL2, ixC, ixB, ixI0, ixI00, ixI1, ixI2, ixI3, upd2_rd, upd2_nd, Nat.reduceEqDiff, Nat.reduceAdd, Nat.add_left_cancel_iff, Nat.add_right_cancel_iff, reduceCtorEq, ↓reduceIte, and_self, and_true, true_and, and_false, false_and, true_or, or_true, false_or, or_false, not_true_eq_false, not_false_eq_true]); (try simp only [w32_em]); (first | done | omega))) (wp_cl1 (wp_use (X12at e140 hW (FQ_S4 k2.1 hS) ha (by omega) k3 (by rw [List.length_append]; omega)) (fun r hr => wp_bnd (wp_some ?_))))
    dsimp only [Sum.elim_inl]
    refine ⟨by omega, ⟨k2.1.tr hr.1, fun k hk => (hr.2.1 k hk).trans (k2.2 k hk)⟩, ?_⟩
    simp only [upL]
    rw [← List.append_assoc]
    exact hr.2.2
  · rintro ⟨c, m⟩ ⟨k1, k2, k3⟩
    simp only at k1 k2 k3
    subst k1
    simp only [s_X12_goesUp_3]
    refine wp_ite_t (by ((try simp (disch := omega) only [w32_and, w32_or, w32_shl, w32_shr, w32_xor, ixO, ixO0, ixO1, ixO2, ixO3, ixL0, ixL1, ixL2, ixC, ixB, ixI0, ixI00, ixI1, ixI2, ixI3, upd2_rd, upd2_nd, Nat.reduceEqDiff, Nat.reduceAdd, Nat.add_left_cancel_iff, Nat.add_right_cancel_iff, reduceCtorEq, ↓reduceIte, and_self, and_true, true_and, and_false, false_and, true_or, or_true, false_or, or_false, not_true_eq_false, not_false_eq_true]); (try simp only [w32_em]); (first | done | omega))) (wp_some ?_)
    dsimp only [Sum.elim_inl, Sum.elim_inr]
    exact wp_some ⟨k2, k3⟩
theorem X12dn {M : Mem} {N : Nat → Int} (hN : M 140 = N) (hW : WF N) {x : Int} (hS : S4 N x M) {a D lo : Nat} (ha : a < 6) (hD : D ≤ 20) (h1 : 1 ≤ lo) (h2 : lo ≤ D + 1) {ls : List Nat} (hs : Sr M ls) (hb : ls.length + (dL N x a D (D + 1 - lo)).length ≤ 24) : wp (f_X12_goesDown (a : Int) (D : Int) (lo : Int) M) (fun r => FQ9 M r ∧ Sr r (ls ++ dL N x a D (D + 1 - lo))) := by
  unfold f_X12_goesDown
  refine wp_lpb (wp_forI (fun i y => y.1 = (D : Int) - (i : Int) ∧ FQ9 M y.2 ∧ Sr y.2 (ls ++ dL N x a D i)) (D + 1 - lo) ?_ ?_ (Nat.zero_le _) ⟨by simp, ⟨FQ.rf, fun _ _ => rfl⟩, by simp only [dL, List.append_nil]; exact hs⟩)
  · rintro i ⟨c, m⟩ hi ⟨k1, k2, k3⟩
    simp only at k1 k2 k3
    have mono := dL_mono (N := N) (x := x) (a := a) (top := D) (show i + 1 ≤ D + 1 - lo by omega)
    simp only [dL, List.length_append] at mono
    have k1' : c = ((D - i : Nat) : Int) := by omega
    subst k1'
    have e140 : m 140 = N := by rw [k2.1.1 140 (by decide) (by decide), hN]
    simp only [s_X12_goesDown_3]
    refine wp_ite_f (by ((try simp (disch := omega) only [w32_and, w32_or, w32_shl, w32_shr, w32_xor, ixO, ixO0, ixO1, ixO2, ixO3, ixL0, ixL1, ixL2, ixC, ixB, ixI0, ixI00, ixI1, ixI2, ixI3, upd2_rd, upd2_nd, Nat.reduceEqDiff, Nat.reduceAdd, Nat.add_left_cancel_iff, Nat.add_right_cancel_iff, reduceCtorEq, ↓reduceIte, and_self, and_true, true_and, and_false, false_and, true_or, or_true, false_or, or_false, not_true_eq_false, not_false_eq_true]); (try simp only [w32_em]); (first | done | omega))) (wp_cl1 (wp_use (X12at e140 hW (FQ_S4 k2.1 hS) ha (by omega) k3 (by rw [List.length_append]; omega)) (fun r hr => wp_bnd (wp_some ?_))))
    dsimp only [Sum.elim_inl]
    refine ⟨by omega, ⟨k2.1.tr hr.1, fun k hk => (hr.2.1 k hk).trans (k2.2 k hk)⟩, ?_⟩
    simp only [dL]
    rw [← List.append_assoc]
    exact hr.2.2
  · rintro ⟨c, m⟩ ⟨k1, k2, k3⟩
    simp only at k1 k2 k3
    simp only [s_X12_goesDown_3]
    refine wp_ite_t (by ((try simp (disch := omega) only [w32_and, w32_or, w32_shl, w32_shr, w32_xor, ixO, ixO0, ixO1, ixO2, ixO3, ixL0, ixL1, ixL2, ixC, ixB, ixI0, ixI00, ixI1, ixI2, ixI3, upd2_rd, upd2_nd, Nat.reduceEqDiff, Nat.reduceAdd, Nat.add_left_cancel_iff, Nat.add_right_cancel_iff, reduceCtorEq, ↓reduceIte, and_self, and_true, true_and, and_false, false_and, true_or, or_true, false_or, or_false, not_true_eq_false, not_false_eq_true]); (try simp only [w32_em]); (first | done | omega))) (wp_some ?_)
    dsimp only [Sum.elim_inl, Sum.elim_inr]
    exact wp_some ⟨k2, k3⟩
/-- through a whole aisle, from the front or from behind -/
def goL (N : Nat → Int) (x : Int) (beh : Bool) (a : Nat) : List Nat := if beh = true then dL N x a (N 1).toNat (N 1).toNat else upL N x a (N 1).toNat
theorem goL_len {N : Nat → Int} (hW : WF N) {x : Int} {beh : Bool} {a : Nat} : (((goL N x beh a).length : Nat) : Int) = cnF N x a := by
  have hw := hW.1
  have hD : N 1 = ((N 1).toNat : Int) := by omega
  rw [← up_cn hW hD]
  unfold goL
  split
  · have := dn_up (N := N) (x := x) (a := a) (D := (N 1).toNat) (N 1).toNat (Nat.le_refl _)
    rw [Nat.sub_self] at this
    simp only [upL, List.length_nil] at this
    omega
  · rfl
theorem X12go {M : Mem} {N : Nat → Int} (hN : M 140 = N) (hW : WF N) {x : Int} (hS : S4 N x M) {a : Nat} (ha : a < 6) {beh : Bool} {e : Int} (he : e = if beh = true then 0 else 1) {ls : List Nat} (hs : Sr M ls) (hb : (ls.length : Int) + cnF N x a ≤ 24) : wp (f_X12_goes (a : Int) e M) (fun r => FQ M r ∧ Sr r (ls ++ goL N x beh a)) := by
  have hw := hW.1
  have gl := goL_len (x := x) (beh := beh) (a := a) hW
  obtain ⟨D, hD⟩ : ∃ D : Nat, N 1 = (D : Int) := ⟨(N 1).toNat, by omega⟩
  have m1 : M 140 1 = (D : Int) := by rw [hN, hD]
  unfold goL at gl ⊢
  rw [hD, Int.toNat_natCast] at gl ⊢
  unfold f_X12_goes
  rw [m1]
  subst he
  cases beh
  · simp only [Bool.false_eq_true, ↓reduceIte] at gl ⊢
    refine wp_ite_f (by decide) (wp_cl1 (wp_use (X12up hN hW hS ha (by omega) hs (by omega)) (fun r hr => wp_some ⟨hr.1.1, hr.2⟩)))
  · simp only [↓reduceIte] at gl ⊢
    have q := X12dn hN hW hS (D := D) (lo := 1) ha (by omega) (by omega) (by omega) hs (by rw [show D + 1 - 1 = D by omega]; omega)
    rw [show D + 1 - 1 = D by omega] at q
    refine wp_ite_t (by decide) (wp_cl1 (wp_use q (fun r hr => wp_some ⟨hr.1.1, hr.2⟩)))
theorem X6go {th : Nat} (hth : 40 ≤ th) {M : Mem} {N : Nat → Int} (hR : HR 1 M N) (hW : WF N) {x : Int} (hx : Ims N x) (hS : Sur th M N x) {a : Nat} (ha : a < 6) {beh : Bool} {e : Int} (he : e = if beh = true then 1 else 0) {ls : List Nat} (hs : St th M ls) (hb : (ls.length : Int) + cnF N x a ≤ 24) : wp (f_X6_visitFrom th 1 (a : Int) e M) (fun r => FS th M r ∧ St th r (ls ++ goL N x beh a)) := by
  have hw := hW.1
  have gl := goL_len (x := x) (beh := beh) (a := a) hW
  obtain ⟨D, hD⟩ : ∃ D : Nat, N 1 = (D : Int) := ⟨(N 1).toNat, by omega⟩
  unfold goL at gl ⊢
  rw [hD, Int.toNat_natCast] at gl ⊢
  unfold f_X6_visitFrom
  subst he
  cases beh
  · simp only [Bool.false_eq_true, ↓reduceIte] at gl ⊢
    have u20 := upL_top (x := x) (a := a) hW hD (20 - D)
    rw [show D + (20 - D) = 20 by omega] at u20
    have q := X6up hth hR hW hx hS (h := 20) ha (by omega) hs (by rw [u20]; omega)
    rw [u20] at q
    refine wp_ite_t (by decide) (wp_cl1 (wp_use q (fun r hr => wp_some hr)))
  · simp only [↓reduceIte] at gl ⊢
    have d20 := dL_top (x := x) (a := a) hW hD (by omega) D
    rw [show 20 - D + D = 20 by omega] at d20
    have q := X6dn hth hR hW hx hS (lo := 1) ha (by omega) (by omega) hs (by rw [show 21 - 1 = 20 from rfl, d20]; omega)
    rw [show 21 - 1 = 20 from rfl, d20] at q
    refine wp_ite_f (by decide) (wp_cl1 (wp_use q (fun r hr => wp_some hr)))
/-- aisle by aisle -/
def dirL (N : Nat → Int) (x : Int) (l : List Nat) (b : Nat → Bool) : Nat → List Nat
  | 0 => []
  | k + 1 => dirL N x l b k ++ goL N x (b k) (l.getD k 0)
theorem dirL_len {N : Nat → Int} (hW : WF N) {x : Int} {l : List Nat} {b : Nat → Bool} : ∀ k, (((dirL N x l b k).length : Nat) : Int) = sm (fun k => cnF N x (l.getD k 0)) k := by
  intro k
  induction k with
  | zero => rfl
  | succ k ih =>
    simp only [dirL, List.length_append, sm]
    rw [← ih, ← goL_len (x := x) (beh := b k) (a := l.getD k 0) hW]
    omega
theorem sm_mono {g : Nat → Int} (h : ∀ i, 0 ≤ g i) {n m : Nat} (hn : n ≤ m) : sm g n ≤ sm g m := by
  induction m with
  | zero => rw [show n = 0 by omega]; exact Int.le_refl _
  | succ m ih =>
    by_cases e : n = m + 1
    · rw [e]; exact Int.le_refl _
    · have := ih (by omega)
      have := h m
      simp only [sm]
      omega
theorem dirL_fit {N : Nat → Int} (hW : WF N) {x : Int} {l : List Nat} {b : Nat → Bool} (h24 : lcn N x l ≤ 24) {k : Nat} (hk : k < l.length) : (((dirL N x l b k).length : Nat) : Int) + cnF N x (l.getD k 0) ≤ 24 := by
  rw [dirL_len hW]
  have := sm_mono (g := fun k => cnF N x (l.getD k 0)) (fun i => cn_pos _) (show k + 1 ≤ l.length by omega)
  unfold lcn at h24
  simp only [sm] at this
  omega
theorem FS_RT {th : Nat} {M r : Mem} {N : Nat → Int} {x : Int} {l : List Nat} (h : FS th M r) (hT : RT th M N x l) : RT th r N x l := RT_upd hT (fun b b1 b2 => h.1 b (by omega) (by omega)) (fun k hk => h.2 k (by omega))
theorem X6retL {th : Nat} (hth : 40 ≤ th) {M : Mem} {N : Nat → Int} (hR : HR 1 M N) (hW : WF N) {x : Int} (hx : Ims N x) {l : List Nat} (hT : RT th M N x l) (hl : VL N x l) (h24 : lcn N x l ≤ 24) (hs : St th M []) : wp (f_X6_listReturn th 1 M) (fun r => FS th M r ∧ St th r (dirL N x l (fun _ => false) l.length)) := by
  have hw := hW.1
  have hl6 := hl.1
  unfold f_X6_listReturn
  refine wp_lpb (wp_forI (fun i y => y.1 = (i : Int) ∧ FS th M y.2 ∧ St th y.2 (dirL N x l (fun _ => false) i)) l.length ?_ ?_ (Nat.zero_le _) ⟨rfl, FS.rf, hs⟩)
  · rintro i ⟨c, m⟩ hi ⟨k1, k2, k3⟩
    simp only at k1 k2 k3
    subst k1
    have hT' := FS_RT k2 hT
    have g := VL_get hl hi
    have e := LR_get hT'.2.2 hi
    have h6 := hT'.2.1
    have ft := dirL_fit (b := fun _ => false) hW h24 hi
    have q := X6go hth (FS_HR hth k2 hR) hW hx hT'.1 g.1 (beh := false) (e := 0) rfl k3 ft
    have q2 : wp (f_X6_visitUp th 1 ((l.getD i 0 : Nat) : Int) 20 m) (fun r => FS th m r ∧ St th r (dirL N x l (fun _ => false) i ++ goL N x false (l.getD i 0))) := by
      unfold f_X6_visitFrom at q
      obtain ⟨r, e1, e2⟩ := q
      rw [if_pos (by decide)] at e1
      exact ⟨_, cl1_id e1, e2⟩
    simp only [s_X6_listReturn_2]
    simp (disch := omega) only [ixO, ixO0, ixO1, ixO2, ixO3, ixL0, ixL1, ixL2, ixC, ixB, ixI0, ixI00, ixI1, ixI2, ixI3, e]
    refine wp_ite_t (by ((try simp (disch := omega) only [w32_and, w32_or, w32_shl, w32_shr, w32_xor, ixO, ixO0, ixO1, ixO2, ixO3, ixL0, ixL1, ixL2, ixC, ixB, ixI0, ixI00, ixI1, ixI2, ixI3, upd2_rd, upd2_nd, Nat.reduceEqDiff, Nat.reduceAdd, Nat.add_left_cancel_iff, Nat.add_right_cancel_iff, reduceCtorEq, ↓reduceIte, and_self, and_true, true_and, and_false, false_and, true_or, or_true, false_or, or_false, not_true_eq_false, not_false_eq_true]); (try simp only [w32_em]); (first | done | omega))) (wp_gi (by omega) (by omega) (by omega) (wp_cl1 (wp_use q2 (fun r hr => wp_bnd (wp_some ?_)))))
    dsimp only [Sum.elim_inl]
    exact ⟨by omega, k2.tr hr.1, hr.2⟩
  · rintro ⟨c, m⟩ ⟨k1, k2, k3⟩
    simp only at k1 k2 k3
    subst k1
    have h6 := (FS_RT k2 hT).2.1
    simp only [s_X6_listReturn_2]
    refine wp_ite_f (by ((try simp (disch := omega) only [w32_and, w32_or, w32_shl, w32_shr, w32_xor, ixO, ixO0, ixO1, ixO2, ixO3, ixL0, ixL1, ixL2, ixC, ixB, ixI0, ixI00, ixI1, ixI2, ixI3, upd2_rd, upd2_nd, Nat.reduceEqDiff, Nat.reduceAdd, Nat.add_left_cancel_iff, Nat.add_right_cancel_iff, reduceCtorEq, ↓reduceIte, and_self, and_true, true_and, and_false, false_and, true_or, or_true, false_or, or_false, not_true_eq_false, not_false_eq_true]); (try simp only [w32_em]); (first | done | omega))) (wp_some ?_)
    dsimp only [Sum.elim_inl, Sum.elim_inr]
    exact wp_some ⟨k2, k3⟩
theorem X6shpL {th : Nat} (hth : 40 ≤ th) {M : Mem} {N : Nat → Int} (hR : HR 1 M N) (hW : WF N) {x : Int} (hx : Ims N x) {l : List Nat} (hT : RT th M N x l) (hl : VL N x l) (h24 : lcn N x l ≤ 24) (hs : St th M []) : wp (f_X6_listSShape th 1 M) (fun r => FS th M r ∧ St th r (dirL N x l (fun k => decide (k % 2 = 1)) l.length)) := by
  have hw := hW.1
  have hl6 := hl.1
  unfold f_X6_listSShape
  refine wp_lpb (wp_forI (fun i y => y.1 = (i : Int) ∧ FS th M y.2 ∧ St th y.2 (dirL N x l (fun k => decide (k % 2 = 1)) i)) l.length ?_ ?_ (Nat.zero_le _) ⟨rfl, FS.rf, hs⟩)
  · rintro i ⟨c, m⟩ hi ⟨k1, k2, k3⟩
    simp only at k1 k2 k3
    subst k1
    have hT' := FS_RT k2 hT
    have g := VL_get hl hi
    have e := LR_get hT'.2.2 hi
    have h6 := hT'.2.1
    have rm := rem2 i (by omega)
    have ft := dirL_fit (b := fun k => decide (k % 2 = 1)) hW h24 hi
    simp only [s_X6_listSShape_2, j_X6_listSShape_29_2]
    simp (disch := omega) only [ixO, ixO0, ixO1, ixO2, ixO3, ixL0, ixL1, ixL2, ixC, ixB, ixI0, ixI00, ixI1, ixI2, ixI3, e]
    refine wp_ite_t (by ((try simp (disch := omega) only [w32_and, w32_or, w32_shl, w32_shr, w32_xor, ixO, ixO0, ixO1, ixO2, ixO3, ixL0, ixL1, ixL2, ixC, ixB, ixI0, ixI00, ixI1, ixI2, ixI3, upd2_rd, upd2_nd, Nat.reduceEqDiff, Nat.reduceAdd, Nat.add_left_cancel_iff, Nat.add_right_cancel_iff, reduceCtorEq, ↓reduceIte, and_self, and_true, true_and, and_false, false_and, true_or, or_true, false_or, or_false, not_true_eq_false, not_false_eq_true]); (try simp only [w32_em]); (first | done | omega))) (wp_gi (by omega) (by omega) (by omega) ?_)
    by_cases q : i % 2 = 1
    · refine wp_ite_f (by rw [rm, q]; decide) (wp_cl1 (wp_use (X6go hth (FS_HR hth k2 hR) hW hx hT'.1 g.1 (beh := true) (e := 1) rfl k3 ft) (fun r hr => wp_bnd (wp_some ?_))))
      dsimp only [Sum.elim_inl]
      simp only [dirL, q, decide_true]
      exact ⟨by omega, k2.tr hr.1, hr.2⟩
    · refine wp_ite_t (by rw [rm, show i % 2 = 0 by omega]; decide) (wp_cl1 (wp_use (X6go hth (FS_HR hth k2 hR) hW hx hT'.1 g.1 (beh := false) (e := 0) rfl k3 ft) (fun r hr => wp_bnd (wp_some ?_))))
      dsimp only [Sum.elim_inl]
      simp only [dirL, q, decide_false]
      exact ⟨by omega, k2.tr hr.1, hr.2⟩
  · rintro ⟨c, m⟩ ⟨k1, k2, k3⟩
    simp only at k1 k2 k3
    subst k1
    have h6 := (FS_RT k2 hT).2.1
    simp only [s_X6_listSShape_2]
    refine wp_ite_f (by ((try simp (disch := omega) only [w32_and, w32_or, w32_shl, w32_shr, w32_xor, ixO, ixO0, ixO1, ixO2, ixO3, ixL0, ixL1, ixL2, ixC, ixB, ixI0, ixI00, ixI1, ixI2, ixI3, upd2_rd, upd2_nd, Nat.reduceEqDiff, Nat.reduceAdd, Nat.add_left_cancel_iff, Nat.add_right_cancel_iff, reduceCtorEq, ↓reduceIte, and_self, and_true, true_and, and_false, false_and, true_or, or_true, false_or, or_false, not_true_eq_false, not_false_eq_true]); (try simp only [w32_em]); (first | done | omega))) (wp_some ?_)
    dsimp only [Sum.elim_inl, Sum.elim_inr]
    exact wp_some ⟨k2, k3⟩
