-- ===== LARGEST_GAP: the stops =====
theorem gpA_st {N : Nat → Int} {x : Int} {a : Nat} : ∀ p, (gpA N x a p).2.1 + (gpA N x a p).2.2 ≤ (p : Int) ∧ ((gpA N x a p).2.2 = 0 → (gpA N x a p).2.1 = 0) := by
  intro p
  induction p with
  | zero => simp [gpA]
  | succ p ih =>
    have r := gpA_rng (N := N) (x := x) (a := a) p
    simp only [gpA]
    split
    · split
      · simp only; exact ⟨by omega, fun h => by omega⟩
      · simp only; exact ⟨by omega, ih.2⟩
    · exact ⟨by omega, ih.2⟩
/-- where the largest gap begins -/
def gsN (N : Nat → Int) (x : Int) (a : Nat) : Nat := (gap N x a).2.1.toNat
theorem gs_rng {N : Nat → Int} (hW : WF N) {x : Int} {a : Nat} : (gap N x a).2.1 = (gsN N x a : Int) ∧ gsN N x a ≤ (N 1).toNat := by
  have tr := thr_rng hW
  have hw := hW.1
  have r := gpA_rng (N := N) (x := x) (a := a) (thr N).toNat
  have s := gpA_st (N := N) (x := x) (a := a) (thr N).toNat
  unfold gsN gap
  unfold thr at *
  refine ⟨by omega, ?_⟩
  by_cases h : (gpA N x a (N 1 + 1).toNat).2.2 = 0
  · have := s.2 h
    omega
  · omega
def dnG (N : Nat → Int) (x : Int) (a : Nat) : List Nat := dL N x a (N 1).toNat ((N 1).toNat - gsN N x a)
def upG (N : Nat → Int) (x : Int) (a : Nat) : List Nat := upL N x a (gsN N x a)
theorem dug {N : Nat → Int} (hW : WF N) {x : Int} {a : Nat} : (((dnG N x a).length : Nat) : Int) + ((upG N x a).length : Int) = cnF N x a := by
  have g := gs_rng (x := x) (a := a) hW
  have hw := hW.1
  have h := dn_up (N := N) (x := x) (a := a) (D := (N 1).toNat) ((N 1).toNat - gsN N x a) (by omega)
  rw [show (N 1).toNat - ((N 1).toNat - gsN N x a) = gsN N x a by omega] at h
  rw [← up_cn hW (show N 1 = ((N 1).toNat : Int) by omega)]
  unfold dnG upG
  omega
def gDn (N : Nat → Int) (x : Int) (l : List Nat) : Nat → List Nat
  | 0 => goL N x false (l.getD 0 0)
  | j + 1 => gDn N x l j ++ dnG N x (l.getD (j + 1) 0)
def gUp (N : Nat → Int) (x : Int) (l : List Nat) : Nat → List Nat
  | 0 => gDn N x l (l.length - 2) ++ goL N x true (l.getD (l.length - 1) 0)
  | j + 1 => gUp N x l j ++ upG N x (l.getD (l.length - 2 - j) 0)
def uS (N : Nat → Int) (x : Int) (l : List Nat) (j : Nat) : Int := sm (fun i => ((upG N x (l.getD (i + 1) 0)).length : Int)) j
theorem gDn_len {N : Nat → Int} (hW : WF N) {x : Int} {l : List Nat} : ∀ j, (((gDn N x l j).length : Nat) : Int) = sm (fun k => cnF N x (l.getD k 0)) (j + 1) - uS N x l j := by
  intro j
  induction j with
  | zero => simp only [gDn, uS, sm]; rw [goL_len hW]; omega
  | succ j ih =>
    have d := dug (x := x) (a := l.getD (j + 1) 0) hW
    unfold uS at ih ⊢
    have e1 : sm (fun k => cnF N x (l.getD k 0)) (j + 1 + 1) = sm (fun k => cnF N x (l.getD k 0)) (j + 1) + cnF N x (l.getD (j + 1) 0) := rfl
    have e2 : sm (fun i => ((upG N x (l.getD (i + 1) 0)).length : Int)) (j + 1) = sm (fun i => ((upG N x (l.getD (i + 1) 0)).length : Int)) j + ((upG N x (l.getD (j + 1) 0)).length : Int) := rfl
    simp only [gDn, List.length_append]
    rw [e1, e2]
    omega
theorem uS_pos {N : Nat → Int} {x : Int} {l : List Nat} {j : Nat} : 0 ≤ uS N x l j := by
  have := sm_mono (g := fun i => ((upG N x (l.getD (i + 1) 0)).length : Int)) (fun i => Int.natCast_nonneg _) (Nat.zero_le j)
  unfold uS
  simpa [sm] using this
theorem gUp_len {N : Nat → Int} (hW : WF N) {x : Int} {l : List Nat} (h2 : 2 ≤ l.length) : ∀ j, j ≤ l.length - 2 → (((gUp N x l j).length : Nat) : Int) = lcn N x l - uS N x l (l.length - 2 - j) := by
  obtain ⟨n, hn⟩ : ∃ n, l.length = n + 2 := ⟨l.length - 2, by omega⟩
  intro j
  induction j with
  | zero =>
    intro _
    have g := gDn_len (x := x) (l := l) hW n
    have go := goL_len (x := x) (beh := true) (a := l.getD (n + 1) 0) hW
    simp only [gUp, List.length_append]
    unfold lcn
    rw [hn, show n + 2 - 2 = n by omega, show n + 2 - 1 = n + 1 by omega, Nat.sub_zero]
    have e : sm (fun k => cnF N x (l.getD k 0)) (n + 2) = sm (fun k => cnF N x (l.getD k 0)) (n + 1) + cnF N x (l.getD (n + 1) 0) := rfl
    rw [e]
    omega
  | succ j ih =>
    intro hj
    have h := ih (by omega)
    simp only [gUp, List.length_append]
    obtain ⟨r, hr⟩ : ∃ r, l.length - 2 - j = r + 1 := ⟨l.length - 2 - j - 1, by omega⟩
    rw [hr] at h ⊢
    rw [show l.length - 2 - (j + 1) = r by omega]
    have e2 : uS N x l (r + 1) = uS N x l r + ((upG N x (l.getD (r + 1) 0)).length : Int) := rfl
    rw [e2] at h
    omega
/-- frame of the class's gaps -/
def FG (th : Nat) (M r : Mem) : Prop := (∀ b, b ≠ th → b ≠ th + 8 → r b = M b) ∧ ∀ k, k ≠ 12 → k ≠ 8 → k ≠ 9 → r th k = M th k
theorem FG.rf {th : Nat} {M : Mem} : FG th M M := ⟨fun _ _ _ => rfl, fun _ _ _ _ => rfl⟩
theorem FG.tr {th : Nat} {A B C : Mem} (h1 : FG th A B) (h2 : FG th B C) : FG th A C := ⟨fun b b1 b2 => (h2.1 b b1 b2).trans (h1.1 b b1 b2), fun k a b c => (h2.2 k a b c).trans (h1.2 k a b c)⟩
theorem FS.fg {th : Nat} {M r : Mem} (h : FS th M r) : FG th M r := ⟨h.1, fun k hk _ _ => h.2 k hk⟩
theorem FG_RT {th : Nat} {M r : Mem} {N : Nat → Int} {x : Int} {l : List Nat} (h : FG th M r) (hT : RT th M N x l) : RT th r N x l := RT_upd hT (fun b b1 b2 => h.1 b (by omega) (by omega)) (fun k hk => h.2 k (by omega) (by omega) (by omega))
theorem FG_HR {th : Nat} (hth : 40 ≤ th) {M r : Mem} {N : Nat → Int} (h : FG th M r) (hR : HR 1 M N) : HR 1 r N := HR_congr (fun d d1 d2 => h.1 _ (by omega) (by omega)) hR
/-- the gap of an aisle, then down to it -/
theorem X6gdn {th : Nat} (hth : 40 ≤ th) {M : Mem} {N : Nat → Int} (hR : HR 1 M N) (hW : WF N) {x : Int} (hx : Ims N x) (hS : Sur th M N x) {a : Nat} (ha : a < 6) {ls : List Nat} (hs : St th M ls) (hb : ls.length + (dnG N x a).length ≤ 24) {g : Int} (hg : g = (gap N x a).2.1) : wp (f_X6_visitDown th 1 (a : Int) (g + 1) M) (fun r => FS th M r ∧ St th r (ls ++ dnG N x a)) := by
  have hw := hW.1
  have gr := gs_rng (x := x) (a := a) hW
  obtain ⟨D, hD⟩ : ∃ D : Nat, N 1 = (D : Int) := ⟨(N 1).toNat, by omega⟩
  unfold dnG at hb ⊢
  rw [hD, Int.toNat_natCast] at hb ⊢
  rw [hD, Int.toNat_natCast] at gr
  have d20 := dL_top (x := x) (a := a) hW hD (by omega) (D - gsN N x a)
  rw [show 20 - D + (D - gsN N x a) = 20 - gsN N x a by omega] at d20
  have q := X6dn hth hR hW hx hS (lo := gsN N x a + 1) ha (by omega) (by omega) hs (by rw [show 21 - (gsN N x a + 1) = 20 - gsN N x a by omega, d20]; exact hb)
  rw [show 21 - (gsN N x a + 1) = 20 - gsN N x a by omega, d20] at q
  rw [hg, gr.1, show ((gsN N x a : Nat) : Int) + 1 = ((gsN N x a + 1 : Nat) : Int) by omega]
  exact q
theorem X6gapL {th : Nat} (hth : 40 ≤ th) {M : Mem} {N : Nat → Int} (hR : HR 1 M N) (hW : WF N) {x : Int} (hx : Ims N x) {l : List Nat} (hT : RT th M N x l) (hl : VL N x l) (h24 : lcn N x l ≤ 24) (h2 : 2 ≤ l.length) (hs : St th M []) : wp (f_X6_listLargestGap th 1 M) (fun r => FG th M r ∧ St th r (gUp N x l (l.length - 2))) := by
  have hw := hW.1
  have hl6 := hl.1
  have h6 := hT.2.1
  obtain ⟨n, hn⟩ : ∃ n, l.length = n + 2 := ⟨l.length - 2, by omega⟩
  have e0 := LR_get hT.2.2 (show 0 < l.length by omega)
  have g0 := VL_get hl (show 0 < l.length by omega)
  have up := fun j => uS_pos (N := N) (x := x) (l := l) (j := j)
  have smm := fun (j : Nat) (h : j ≤ l.length) => sm_mono (g := fun k => cnF N x (l.getD k 0)) (fun i => cn_pos _) h
  unfold f_X6_listLargestGap
  rw [h6]
  refine wp_ite_f (by ((try simp (disch := omega) only [w32_and, w32_or, w32_shl, w32_shr, w32_xor, ixO, ixO0, ixO1, ixO2, ixO3, ixL0, ixL1, ixL2, ixC, ixB, ixI0, ixI00, ixI1, ixI2, ixI3, upd2_rd, upd2_nd, Nat.reduceEqDiff, Nat.reduceAdd, Nat.add_left_cancel_iff, Nat.add_right_cancel_iff, reduceCtorEq, ↓reduceIte, and_self, and_true, true_and, and_false, false_and, true_or, or_true, false_or, or_false, not_true_eq_false, not_false_eq_true]); (try simp only [w32_em]); (first | done | omega))) (wp_cl1 ?_)
  rw [e0]
  have c0 : (([] : List Nat).length : Int) + cnF N x (l.getD 0 0) ≤ 24 := by
    have := smm 1 (by omega)
    unfold lcn at h24
    simp only [sm] at this
    simp only [List.length_nil]
    omega
  refine wp_use (X6go hth hR hW hx hT.1 g0.1 (beh := false) (e := 0) rfl hs c0) (fun r hr => wp_lpb ?_)
  refine wp_forI (fun i y => y.1 = ((i + 1 : Nat) : Int) ∧ FG th M y.2 ∧ St th y.2 (gDn N x l i)) n ?_ ?_ (Nat.zero_le _) ⟨rfl, hr.1.fg, hr.2⟩
  · rintro i ⟨c, m⟩ hi ⟨k1, k2, k3⟩
    simp only at k1 k2 k3
    subst k1
    have hTm := FG_RT k2 hT
    have g := VL_get hl (show i + 1 < l.length by omega)
    have e := LR_get hTm.2.2 (show i + 1 < l.length by omega)
    have h6m := hTm.2.1
    have xi : ix ((i + 1 : Nat) : Int) = i + 1 := ix_nat (by omega)
    have dl := gDn_len (x := x) (l := l) hW i
    have dg := dug (x := x) (a := l.getD (i + 1) 0) hW
    have sm2 := smm (i + 2) (by omega)
    have e2 : sm (fun k => cnF N x (l.getD k 0)) (i + 2) = sm (fun k => cnF N x (l.getD k 0)) (i + 1) + cnF N x (l.getD (i + 1) 0) := rfl
    have up1 := up i
    unfold lcn at h24
    simp only [s_X6_listLargestGap_28]
    refine wp_ite_t (by ((try simp (disch := omega) only [w32_and, w32_or, w32_shl, w32_shr, w32_xor, ixO, ixO0, ixO1, ixO2, ixO3, ixL0, ixL1, ixL2, ixC, ixB, ixI0, ixI00, ixI1, ixI2, ixI3, upd2_rd, upd2_nd, Nat.reduceEqDiff, Nat.reduceAdd, Nat.add_left_cancel_iff, Nat.add_right_cancel_iff, reduceCtorEq, ↓reduceIte, and_self, and_true, true_and, and_false, false_and, true_or, or_true, false_or, or_false, not_true_eq_false, not_false_eq_true]); (try simp only [w32_em]); (first | done | omega))) (wp_gi (by omega) (by omega) (by omega) (wp_cl1 ?_))
    rw [xi, e]
    refine wp_use (X6gap hW hTm.1 g.1) (fun u hu => wp_gi (by omega) (by omega) (by omega) (wp_cl1 ?_))
    have fu : FG th m u := ⟨fun b b1 _ => hu.1 b b1, fun k _ b c => hu.2.1 k b c⟩
    have hTu := FG_RT fu hTm
    rw [hu.1 (th + 5) (by omega), e]
    refine wp_use (X6gdn hth (FG_HR hth (k2.tr fu) hR) hW hx hTu.1 g.1 (ls := gDn N x l i) ⟨by rw [hu.2.1 12 (by decide) (by decide)]; exact k3.1, LR_congr k3.2 (hu.1 _ (by omega))⟩ (by omega) hu.2.2.1) (fun v hv => wp_bnd (wp_some ?_))
    dsimp only [Sum.elim_inl]
    exact ⟨by omega, (k2.tr fu).tr hv.1.fg, hv.2⟩
  · rintro ⟨c, m⟩ ⟨k1, k2, k3⟩
    simp only at k1 k2 k3
    subst k1
    have hTm := FG_RT k2 hT
    have h6m := hTm.2.1
    have g := VL_get hl (show n + 1 < l.length by omega)
    have e := LR_get hTm.2.2 (show n + 1 < l.length by omega)
    have x1 : ix ((l.length : Int) - 1) = n + 1 := by rw [ix_of (by omega) (by omega)]; omega
    have dl := gDn_len (x := x) (l := l) hW n
    have e2 : lcn N x l = sm (fun k => cnF N x (l.getD k 0)) (n + 1) + cnF N x (l.getD (n + 1) 0) := by unfold lcn; rw [hn]; rfl
    have up1 := up n
    simp only [s_X6_listLargestGap_28]
    refine wp_ite_f (by ((try simp (disch := omega) only [w32_and, w32_or, w32_shl, w32_shr, w32_xor, ixO, ixO0, ixO1, ixO2, ixO3, ixL0, ixL1, ixL2, ixC, ixB, ixI0, ixI00, ixI1, ixI2, ixI3, upd2_rd, upd2_nd, Nat.reduceEqDiff, Nat.reduceAdd, Nat.add_left_cancel_iff, Nat.add_right_cancel_iff, reduceCtorEq, ↓reduceIte, and_self, and_true, true_and, and_false, false_and, true_or, or_true, false_or, or_false, not_true_eq_false, not_false_eq_true]); (try simp only [w32_em]); (first | done | omega))) (wp_some ?_)
    dsimp only [Sum.elim_inl, Sum.elim_inr]
    rw [h6m, x1, e]
    refine wp_gi (by omega) (by omega) (by omega) (wp_cl1 (wp_use (X6go hth (FG_HR hth k2 hR) hW hx hTm.1 g.1 (beh := true) (e := 1) rfl k3 (by omega)) (fun v hv => wp_bnd (wp_lpb ?_))))
    have fv := k2.tr hv.1.fg
    have h6v := (FG_RT fv hT).2.1
    rw [h6v]
    refine wp_forI (fun i y => y.1 = (l.length : Int) - 2 - (i : Int) ∧ FG th M y.2 ∧ St th y.2 (gUp N x l i)) (l.length - 2) ?_ ?_ (Nat.zero_le _) ⟨by simp, fv, by simp only [gUp]; rw [show l.length - 2 = n by omega, show l.length - 1 = n + 1 by omega]; exact hv.2⟩
    · rintro i ⟨c, m2⟩ hi ⟨j1, j2, j3⟩
      simp only at j1 j2 j3
      have hT2 := FG_RT j2 hT
      have hk : l.length - 2 - i < l.length := by omega
      have g := VL_get hl hk
      have e := LR_get hT2.2.2 hk
      have cc : c = ((l.length - 2 - i : Nat) : Int) := by omega
      subst cc
      have xi : ix ((l.length - 2 - i : Nat) : Int) = l.length - 2 - i := ix_nat (by omega)
      have ul := gUp_len (x := x) hW h2 i (by omega)
      have ul2 := gUp_len (x := x) hW h2 (i + 1) (by omega)
      have up2 := up (l.length - 2 - (i + 1))
      simp only [gUp, List.length_append] at ul2
      have gr := gs_rng (x := x) (a := l.getD (l.length - 2 - i) 0) hW
      simp only [s_X6_listLargestGap_95]
      refine wp_ite_f (by ((try simp (disch := omega) only [w32_and, w32_or, w32_shl, w32_shr, w32_xor, ixO, ixO0, ixO1, ixO2, ixO3, ixL0, ixL1, ixL2, ixC, ixB, ixI0, ixI00, ixI1, ixI2, ixI3, upd2_rd, upd2_nd, Nat.reduceEqDiff, Nat.reduceAdd, Nat.add_left_cancel_iff, Nat.add_right_cancel_iff, reduceCtorEq, ↓reduceIte, and_self, and_true, true_and, and_false, false_and, true_or, or_true, false_or, or_false, not_true_eq_false, not_false_eq_true]); (try simp only [w32_em]); (first | done | omega))) (wp_gi (by omega) (by omega) (by omega) (wp_cl1 ?_))
      rw [xi, e]
      refine wp_use (X6gap hW hT2.1 g.1) (fun u hu => wp_gi (by omega) (by omega) (by omega) (wp_cl1 ?_))
      have fu : FG th m2 u := ⟨fun b b1 _ => hu.1 b b1, fun k _ b c => hu.2.1 k b c⟩
      have hTu := FG_RT fu hT2
      rw [hu.1 (th + 5) (by omega), e, hu.2.2.1, gr.1]
      refine wp_use (X6up hth (FG_HR hth (j2.tr fu) hR) hW hx hTu.1 (h := gsN N x (l.getD (l.length - 2 - i) 0)) g.1 (by omega) (ls := gUp N x l i) ⟨by rw [hu.2.1 12 (by decide) (by decide)]; exact j3.1, LR_congr j3.2 (hu.1 _ (by omega))⟩ (by unfold upG at ul2; omega)) (fun v hv => wp_bnd (wp_some ?_))
      dsimp only [Sum.elim_inl]
      exact ⟨by omega, (j2.tr fu).tr hv.1.fg, hv.2⟩
    · rintro ⟨c, m2⟩ ⟨j1, j2, j3⟩
      simp only at j1 j2 j3
      simp only [s_X6_listLargestGap_95]
      refine wp_ite_t (by ((try simp (disch := omega) only [w32_and, w32_or, w32_shl, w32_shr, w32_xor, ixO, ixO0, ixO1, ixO2, ixO3, ixL0, ixL1, ixL2, ixC, ixB, ixI0, ixI00, ixI1, ixI2, ixI3, upd2_rd, upd2_nd, Nat.reduceEqDiff, Nat.reduceAdd, Nat.add_left_cancel_iff, Nat.add_right_cancel_iff, reduceCtorEq, ↓reduceIte, and_self, and_true, true_and, and_false, false_and, true_or, or_true, false_or, or_false, not_true_eq_false, not_false_eq_true]); (try simp only [w32_em]); (first | done | omega))) (wp_some ?_)
      dsimp only [Sum.elim_inl, Sum.elim_inr]
      exact wp_some ⟨j2, j3⟩
