-- ===== loading a text =====
set_option maxHeartbeats 600000 in
theorem X12beg {m : Mem} : wp (f_X12_begins m) (fun r => (∀ a, a ≠ 140 → r a = m a) ∧ r 140 = row0 (m 140)) := by
  unfold f_X12_begins
  refine wp_lpb (wp_forI (fun i x => x.1 = (i : Int) ∧ (∀ a, a ≠ 140 → x.2 a = m a) ∧ ∀ k, x.2 140 k = if k < i then 0 else m 140 k) 469 ?_ ?_ (Nat.zero_le _) ⟨rfl, fun _ _ => rfl, fun k => by rw [if_neg (by omega)]⟩)
  · rintro i ⟨y, z⟩ hi ⟨k1, k2, k3⟩
    simp only at k1 k2 k3
    subst k1
    have xi : ix (i : Int) = i := ix_nat (by omega)
    simp only [s_X12_begins_2, xi]
    refine wp_ite_t (by ((try simp (disch := omega) only [w32_and, w32_or, w32_shl, w32_shr, w32_xor, ixO, ixO0, ixO1, ixO2, ixO3, ixL0, ixL1, ixL2, ixC, ixB, ixI0, ixI00, ixI1, ixI2, ixI3, upd2_rd, upd2_nd, Nat.reduceEqDiff, Nat.reduceAdd, Nat.add_left_cancel_iff, Nat.add_right_cancel_iff, reduceCtorEq, ↓reduceIte, and_self, and_true, true_and, and_false, false_and, true_or, or_true, false_or, or_false, not_true_eq_false, not_false_eq_true]); (try simp only [w32_em]); (first | done | omega))) (wp_gi (by omega) (by omega) (by omega) (wp_bnd (wp_bnd (wp_some ⟨by (try dsimp only); omega, fun a ha => ?_, fun k => ?_⟩))))
    · try dsimp only
      rw [upd2_ne ha]; exact k2 a ha
    · try dsimp only
      rw [upd2_at, k3]
      by_cases e : k = i
      · rw [if_pos e, if_pos (by omega)]
      · rw [if_neg e]
        by_cases l : k < i
        · rw [if_pos l, if_pos (by omega)]
        · rw [if_neg l, if_neg (by omega)]
  · rintro ⟨y, z⟩ ⟨k1, k2, k3⟩
    simp only at k1 k2 k3
    subst k1
    simp only [s_X12_begins_2]
    refine wp_ite_f (by decide) (wp_some ?_)
    dsimp only [Sum.elim_inl, Sum.elim_inr]
    refine wp_bnd (wp_bnd (wp_bnd (wp_bnd (wp_bnd (wp_bnd (wp_bnd (wp_bnd (wp_some ⟨fun a ha => ?_, ?_⟩))))))))
    · simp (disch := omega) only [upd2_ne]
      exact k2 a ha
    · funext k
      unfold row0
      simp only [upd2_at, k3]
      by_cases e0 : k = 0
      · subst e0; simp
      by_cases e1 : k = 1
      · subst e1; simp
      by_cases e2 : k = 2
      · subst e2; simp
      by_cases e7 : k = 7
      · subst e7; simp
      by_cases e8 : k = 8
      · subst e8; simp
      by_cases e9 : k = 9
      · subst e9; simp
      by_cases e10 : k = 10
      · subst e10; simp
      by_cases e12 : k = 12
      · subst e12; simp
      simp only [e0, e1, e2, e7, e8, e9, e10, e12, ↓reduceIte]
set_option maxHeartbeats 600000 in
theorem sqld {M : Mem} : s_X12_load_45 M = cl1 (f_X12_isWell M) (fun r_13 => (if w32 r_13 = 0 then some (.inr (.inl M)) else (if w32 (M 139 26) = 0 then some (.inr (.inl M)) else cl1 (f_X12_readStatement M) (fun M_16 => some (.inl M_16))))) := rfl
set_option maxHeartbeats 600000 in
theorem R_ldE {M1 : Mem} {t : Nat → Int} {n : Nat} {e : Er} {m : Mem} (h : REr M1 t n e m) : wp (wh (fun y => s_X12_load_45 y) m) (fun r => r = .inl m) := by
  refine wp_unroll ?_
  show wp (s_X12_load_45 m) _
  rw [sqld]
  exact wp_cl1 (wp_eq (R_wellE h) (wp_ite_t (by decide) (wp_some rfl)))
def PRa (M1 : Mem) (t : Nat → Int) (n : Nat) (q : Er ⊕ (Nat → Int)) (m : Mem) : Prop := match q with
  | .inl e => REr M1 t n e m
  | .inr N => RBs M1 t n N m
set_option maxHeartbeats 600000 in
theorem R_loop {M1 : Mem} {t : Nat → Int} {n : Nat} : ∀ (f : Nat) (N : Nat → Int) (p : Nat) (m : Mem), RKp M1 t n N p m → REd M1 N → n + 2 ≤ p + f → wp (wh (fun y => s_X12_load_45 y) m) (fun r => ∃ z : Mem, r = .inl z ∧ PRa M1 t n (rAll t n f N p) z) := by
  intro f
  induction f with
  | zero =>
    intro N p m h hE h1
    have := h.2.2
    omega
  | succ f ih =>
    intro N p m h hE h1
    have tr := tk_rng (t := t) h.2.2
    refine wp_unroll ?_
    show wp (s_X12_load_45 m) _
    rw [sqld, h.2.1.1]
    simp only [rAll]
    refine wp_cl1 (wp_eq (R_well h.1) (wp_ite_f (by decide) ?_))
    by_cases k : tK t n p = 0
    · rw [if_pos k]
      exact wp_ite_t (by ((try simp (disch := omega) only [w32_and, w32_or, w32_shl, w32_shr, w32_xor, ixO, ixO0, ixO1, ixO2, ixO3, ixL0, ixL1, ixL2, ixC, ixB, ixI0, ixI00, ixI1, ixI2, ixI3, upd2_rd, upd2_nd, Nat.reduceEqDiff, Nat.reduceAdd, Nat.add_left_cancel_iff, Nat.add_right_cancel_iff, reduceCtorEq, ↓reduceIte, and_self, and_true, true_and, and_false, false_and, true_or, or_true, false_or, or_false, not_true_eq_false, not_false_eq_true]); (try simp only [w32_em]); (first | done | omega))) (wp_some ⟨m, rfl, h.1⟩)
    · rw [if_neg k]
      refine wp_ite_f (by ((try simp (disch := omega) only [w32_and, w32_or, w32_shl, w32_shr, w32_xor, ixO, ixO0, ixO1, ixO2, ixO3, ixL0, ixL1, ixL2, ixC, ixB, ixI0, ixI00, ixI1, ixI2, ixI3, upd2_rd, upd2_nd, Nat.reduceEqDiff, Nat.reduceAdd, Nat.add_left_cancel_iff, Nat.add_right_cancel_iff, reduceCtorEq, ↓reduceIte, and_self, and_true, true_and, and_false, false_and, true_or, or_true, false_or, or_false, not_true_eq_false, not_false_eq_true]); (try simp only [w32_em]); (first | done | omega))) (wp_cl1 (wp_use (R_stm h hE) (fun z hz => wp_some ?_)))
      dsimp only [Sum.elim_inl]
      rcases hz with ⟨e, e1, hz⟩ | ⟨q, N', e1, hz, h2, hE'⟩
      · rw [e1, bd_l]
        exact wp_use (R_ldE hz) (fun r hr => ⟨z, hr, hz⟩)
      · rw [e1, bd_r]
        exact ih N' q z hz hE' (by omega)
set_option maxHeartbeats 600000 in
theorem SV_fr {M M' : Mem} (e : ∀ a, a = 37 ∨ a = 142 ∨ a = 143 ∨ 160 ≤ a → M' a = M a) (h : SV M) : SV M' := by
  intro j hj
  rw [e 37 (by omega), e 142 (by omega), e 143 (by omega)]
  rcases h j hj with h | ⟨a, b, c, d⟩
  · exact Or.inl h
  · exact Or.inr ⟨a, b, HR_congr (fun d d1 d2 => e _ (by omega)) c, d⟩
set_option maxHeartbeats 600000 in
theorem R_text {M : Mem} {t : Nat → Int} {n : Nat} {m : Mem} (hT : TXr t n m) (h24 : m 139 24 = 0) (h28 : m 139 28 = 0) (h29 : m 139 29 = -1) (h140 : m 140 = row0 (M 140)) : wp (cl1 (f_X12_next m) (fun M_10 => cl1 (f_X12_readHall M_10) (fun M_12 => lpb (wh (fun x => s_X12_load_45 x) M_12) (fun z_17 => j_X12_load_66 z_17) (fun q => some q)))) (fun r => ∃ z : Mem, PRa m t n (rTxt t n (M 140)) z ∧ wp (j_X12_load_66 z) (fun s => s = r)) := by
  have hB : RBs m t n (row0 (M 140)) m := ⟨hT, h28, h29, h140, WF_row0, fun _ _ _ => rfl, fun _ _ => rfl⟩
  have hE : REd m (row0 (M 140)) := fun k _ => by rw [h140]
  have j66 : ∀ z : Mem, PRa m t n (rTxt t n (M 140)) z → wp (j_X12_load_66 z) (fun r => ∃ z : Mem, PRa m t n (rTxt t n (M 140)) z ∧ wp (j_X12_load_66 z) (fun s => s = r)) := fun z hz => by
    have ok : wp (j_X12_load_66 z) (fun _ => True) := by
      unfold j_X12_load_66
      have h28' : ∃ c : Int, z 139 28 = c ∧ 0 ≤ c ∧ c ≤ 3 := by
        cases e : rTxt t n (M 140) with
        | inl er => rw [e] at hz; exact ⟨er.1, hz.1, by have := hz.2.2.1; omega, by have := hz.2.2.1; omega⟩
        | inr N => rw [e] at hz; exact ⟨0, hz.2.1, by omega, by omega⟩
      unfold f_X12_isWell
      refine wp_bnd (wp_cl1 (wp_ite (fun _ => wp_some (wp_ite (fun _ => wp_cl1 (wp_use (X12copies (x1 := 0) (x3 := 0) (by omega) (by omega) (by omega) (by omega) (by omega)) (fun _ _ => wp_some trivial))) (fun _ => wp_some trivial))) (fun _ => wp_some (wp_ite (fun _ => wp_cl1 (wp_use (X12copies (x1 := 0) (x3 := 0) (by omega) (by omega) (by omega) (by omega) (by omega)) (fun _ _ => wp_some trivial))) (fun _ => wp_some trivial)))))
    obtain ⟨a, ea, _⟩ := ok
    exact ⟨a, ea, z, hz, a, ea, rfl⟩
  refine wp_cl1 (wp_use (R_next hB (p := 0) (Nat.zero_le _) h24) (fun z hz => wp_cl1 (wp_use (R_hall hz hE (by unfold row0; simp)) (fun y hy => ?_))))
  rcases hy with ⟨e, e1, hy⟩ | ⟨q, N', e1, hy, h2, hE'⟩
  · refine wp_lpb (wp_use (R_ldE hy) (fun r hr => ?_))
    subst hr
    refine j66 y ?_
    unfold rTxt
    rw [e1]
    exact hy
  · refine wp_lpb (wp_use (R_loop (n + 2) N' q y hy hE' (by omega)) (fun r hr => ?_))
    obtain ⟨w, rfl, hw⟩ := hr
    refine j66 w ?_
    unfold rTxt
    rw [e1]
    exact hw
set_option maxHeartbeats 600000 in
theorem Inv_ld {M u : Mem} (hI : Inv M) (hH : HR 1 u (u 140)) (hW : WF (u 140)) (e1 : u 38 1 = 0) (e2 : u 139 23 = 0) (e3 : u 139 28 = u 38 2) (e4 : u 139 29 = u 38 3) (e : ∀ a, 36 < a → a ≠ 38 → a ≠ 139 → a ≠ 140 → a ≠ 141 → u a = M a) : Inv u ∧ u 37 = M 37 := by
  refine ⟨⟨hH, hW, ⟨by omega, by omega, by omega, fun i hi => by omega, e3, e4, ?_⟩, SV_fr (fun a ha => e a (by omega) (by omega) (by omega) (by omega) (by omega)) hI.2.2.2⟩, e 37 (by omega) (by omega) (by omega) (by omega) (by omega)⟩
  rw [e 156 (by omega) (by omega) (by omega) (by omega) (by omega)]
  exact hI.2.2.1.2.2.2.2.2.2
set_option maxHeartbeats 600000 in
theorem o_53 {M : Mem} (hI : Inv M) (p1 p2 p3 p4 : Int) : Ow (L_53 p1 p2 p3 p4 M) M := by
  obtain ⟨x1, x2, x3, x4, x5, x6, x7⟩ := hI.2.2.1
  obtain ⟨n, hn⟩ : ∃ n : Nat, M 38 1 = (n : Int) := ⟨(M 38 1).toNat, by omega⟩
  have hT : TXt (M 39) n M := ⟨hn, by omega, fun i hi => ⟨rfl, (x4 i (by omega)).2⟩⟩
  show wp (L_53 p1 p2 p3 p4 M) _
  unfold L_53 f_X11_load
  have ci := C_into hT
  have f0 : upd2 M 38 0 (M 38 0) = M := by
    funext a j
    unfold upd2
    by_cases e : a = 38
    · rw [if_pos e]
      try dsimp only
      by_cases e2 : j = 0
      · rw [if_pos e2, e, e2]
      · rw [if_neg e2]
    · rw [if_neg e]
  rw [f0] at ci
  refine wp_cl2 (wp_cl2 (wp_use ci (fun r hr => wp_bnd ?_)))
  obtain ⟨r0, r⟩ := r
  -- the reference, from the memory that the reader left
  have ref : ∀ (w : Mem), (∀ a, 36 < a → a ≠ 38 → w a = M a) → wp (f_X12_load w) (fun s => ∃ m z : Mem, (∀ a, a ≠ 139 → a ≠ 140 → a ≠ 141 → m a = w a) ∧ (∀ k, k < 469 → m 141 k = M 140 k) ∧ (∀ k, 469 ≤ k → m 140 k = M 140 k) ∧ PRa m (M 39) n (rTxt (M 39) n (M 140)) z ∧ wp (j_X12_load_66 z) (fun y => y = s)) := fun w hw => by
    unfold f_X12_load
    refine wp_bnd (wp_cl1 (wp_use (X12copies (x1 := 0) (x3 := 0) (by omega) (by omega) (by omega) (by omega) (by omega)) (fun a ha => wp_cl1 (wp_use X12beg (fun b hb => wp_bnd (wp_bnd (wp_bnd ?_)))))))
    obtain ⟨a1, a2⟩ := ha
    obtain ⟨b1, b2⟩ := hb
    have a140 : a 140 = M 140 := by rw [a1 140 (by decide), upd2_ne (by decide)]; exact hw 140 (by omega) (by omega)
    rw [a140] at b2
    have e139 : ∀ k, k ≠ 0 → b 139 k = M 139 k := fun k hk => by rw [b1 139 (by decide), a1 139 (by decide), upd2_row hk, hw 139 (by omega) (by omega)]
    have eo : ∀ c, c ≠ 139 → c ≠ 140 → c ≠ 141 → b c = w c := fun c c1 c2 c3 => by rw [b1 c c2, a1 c c3, upd2_ne c1]
    refine wp_use (R_text (M := M) (t := M 39) (n := n) ⟨?_, by omega, fun i hi => ?_, ?_⟩ ?_ ?_ ?_ ?_) (fun s hs => ?_)
    · simp only [upd2_rd, upd2_nd, Nat.reduceEqDiff, Nat.reduceAdd, Nat.add_left_cancel_iff, Nat.add_right_cancel_iff, reduceCtorEq, ↓reduceIte, and_self, and_true, true_and, and_false, false_and, true_or, or_true, false_or, or_false, not_true_eq_false, not_false_eq_true]
      rw [e139 23 (by decide), x3, hn]
    · simp (disch := omega) only [upd2_ne]
      have := x4 i (by omega)
      rw [eo 155 (by decide) (by decide) (by decide), hw 155 (by omega) (by omega)]
      exact ⟨this.1.symm, this.2⟩
    · simp (disch := omega) only [upd2_ne]
      rw [eo 156 (by decide) (by decide) (by decide), hw 156 (by omega) (by omega)]
      exact x7
    · simp only [upd2_rd, upd2_nd, Nat.reduceEqDiff, Nat.reduceAdd, Nat.add_left_cancel_iff, Nat.add_right_cancel_iff, reduceCtorEq, ↓reduceIte, and_self, and_true, true_and, and_false, false_and, true_or, or_true, false_or, or_false, not_true_eq_false, not_false_eq_true]
    · simp only [upd2_rd, upd2_nd, Nat.reduceEqDiff, Nat.reduceAdd, Nat.add_left_cancel_iff, Nat.add_right_cancel_iff, reduceCtorEq, ↓reduceIte, and_self, and_true, true_and, and_false, false_and, true_or, or_true, false_or, or_false, not_true_eq_false, not_false_eq_true]
    · simp only [upd2_rd, upd2_nd, Nat.reduceEqDiff, Nat.reduceAdd, Nat.add_left_cancel_iff, Nat.add_right_cancel_iff, reduceCtorEq, ↓reduceIte, and_self, and_true, true_and, and_false, false_and, true_or, or_true, false_or, or_false, not_true_eq_false, not_false_eq_true]
    · simp (disch := omega) only [upd2_ne]
      exact b2
    · obtain ⟨z, z1, z2⟩ := hs
      refine ⟨_, z, fun c c1 c2 c3 => ?_, fun k hk => ?_, fun k hk => ?_, z1, z2⟩
      · simp (disch := omega) only [upd2_ne]
        exact eo c c1 c2 c3
      · simp (disch := omega) only [upd2_ne]
        rw [b1 141 (by decide), a2 k, if_pos (by omega), upd2_ne (by decide), hw 140 (by omega) (by omega)]
        simp
      · simp (disch := omega) only [upd2_ne]
        rw [b2]
        unfold row0
        rw [if_neg (by omega), if_neg (by omega), if_neg (by omega), if_neg (by omega), if_neg (by omega), if_neg (by omega), if_neg (by omega), if_neg (by omega), if_neg (by omega)]
  cases e : rTxt (M 39) n (M 140) with
  | inl er =>
    rw [e] at hr
    obtain ⟨h1, h2, h3, h4, h5⟩ := hr
    simp only at h1 h2 h3 h4
    subst h1
    refine wp_ite_t (by show w32 0 = 0; decide) (wp_some (wp_cl2 ?_))
    have hw : ∀ a, 36 < a → a ≠ 38 → upd2 r 38 1 0 a = M a := fun a a1 a2 => by rw [upd2_ne a2]; exact h4 a (by omega) a2
    refine wp_use (ref _ hw) (fun s hs => ?_)
    obtain ⟨m, z, m1, m2, m3, hz, j⟩ := hs
    rw [e] at hz
    obtain ⟨z1, z2, z3, z4, z5⟩ := hz
    have zw : REr m (M 39) n er (upd2 z 139 23 0) → True := fun _ => trivial
    unfold j_X12_load_66 at j
    have wl : f_X12_isWell (upd2 z 139 23 0) = some 0 := by
      unfold f_X12_isWell
      rw [upd2_row (by decide), z1]
      exact if_neg (by rw [w32_ok ⟨by omega, by omega⟩]; omega)
    obtain ⟨s', es', hs'⟩ := j
    subst hs'
    rw [bnd_eq, wl, cl1_some, if_pos (by decide)] at es'
    obtain ⟨u, eu, u1, u2⟩ := X12copies (M := upd2 z 139 23 0) (a0 := 141) (n0 := 469) (a2 := 140) (n2 := 469) (x1 := 0) (x3 := 0) (by omega) (by omega) (by omega) (by omega) (by omega)
    have eu' : f_X12_copies 141 469 140 469 0 0 (upd2 z 139 23 0) = some u := eu
    rw [eu', cl1_some] at es'
    have es2 : s' = (-1, u) := (Option.some.inj es').symm
    subst es2
    have uo : ∀ a, a ≠ 139 → a ≠ 140 → a ≠ 141 → u a = upd2 r 38 1 0 a := fun a a1 a2 a3 => by rw [u1 a a2, upd2_ne a1, z4.1 a a1 a2, m1 a a1 a2 a3]
    have u140 : u 140 = M 140 := by
      funext k
      rw [u2 k, upd2_ne (by decide), upd2_ne (by decide)]
      by_cases l : k < 469
      · rw [if_pos (by omega), z4.1 141 (by decide) (by decide), show 0 + (k - 0) = k by omega, m2 k l]
      · rw [if_neg (by omega), z5 k (by omega), m3 k (by omega)]
    have u39 : ∀ k, u 139 k = upd2 z 139 23 0 139 k := fun k => by rw [u1 139 (by decide)]
    have u38 : u 38 = upd2 r 38 1 0 38 := uo 38 (by decide) (by decide) (by decide)
    suffices fin : Inv u ∧ u 37 = M 37 from wp_ite_t rfl (wp_some fin)
    refine Inv_ld hI ?_ ?_ ?_ ?_ ?_ ?_ (fun a a1 a2 a3 a4 a5 => ?_)
    · rw [u140]
      exact HR_congr (fun d d1 d2 => by rw [uo _ (by omega) (by omega) (by omega), upd2_ne (by omega)]; exact h4 _ (by omega) (by omega)) hI.1
    · rw [u140]; exact hI.2.1
    · rw [u38, upd2_same]
    · rw [u39, upd2_same]
    · rw [u39, upd2_row (by decide), z1, u38, upd2_row (by decide), h2]
    · rw [u39, upd2_row (by decide), z2, u38, upd2_row (by decide), h3]
    · rw [uo a a3 a4 a5]; exact hw a a1 a2
  | inr N' =>
    rw [e] at hr
    obtain ⟨h1, h2, h3, h4, h5, h6, h7⟩ := hr
    simp only at h1 h2 h3 h4 h5 h6 h7
    subst h1
    have hR3 : HR 19 (upd2 r 38 1 0) N' := HR_congr (fun d d1 d2 => upd2_ne (by omega)) h5
    refine wp_ite_f (by show ¬ w32 1 = 0; decide) (wp_cl1 (wp_use (X1copy (th := 1) (a1 := 19) (by omega) hR3 (WF_w h6)) (fun c hc => wp_some (wp_cl2 ?_))))
    obtain ⟨c1, c2⟩ := hc
    have c10 : c 10 0 = N' 4 := (HR_O c2).1
    have hw : ∀ a, 36 < a → a ≠ 38 → c a = M a := fun a a1 a2 => by rw [c1 a (by omega), upd2_ne a2]; exact h7 a (by omega) a2
    refine wp_use (ref _ hw) (fun s hs => ?_)
    obtain ⟨m, z, m1, m2, m3, hz, j⟩ := hs
    rw [e] at hz
    obtain ⟨z1, z2, z3, z4, z5, z6⟩ := hz
    unfold j_X12_load_66 at j
    have wl : f_X12_isWell (upd2 z 139 23 0) = some 1 := by
      unfold f_X12_isWell
      rw [upd2_row (by decide), z2]
      exact if_pos (by decide)
    obtain ⟨s', es', hs'⟩ := j
    subst hs'
    rw [bnd_eq, wl, cl1_some, if_neg (by decide)] at es'
    have es2 : s' = (upd2 z 139 23 0 140 4, upd2 z 139 23 0) := (Option.some.inj es').symm
    subst es2
    have uo : ∀ a, a ≠ 139 → a ≠ 140 → a ≠ 141 → upd2 z 139 23 0 a = c a := fun a a1 a2 a3 => by rw [upd2_ne a1, z6.1 a a1 a2, m1 a a1 a2 a3]
    have u140 : upd2 z 139 23 0 140 = N' := by rw [upd2_ne (by decide)]; exact z4
    have u38 : upd2 z 139 23 0 38 = upd2 r 38 1 0 38 := by rw [uo 38 (by decide) (by decide) (by decide), c1 38 (by omega)]
    suffices fin : Inv (upd2 z 139 23 0) ∧ upd2 z 139 23 0 37 = M 37 from wp_ite_t (by (try dsimp only); rw [u140, c10]) (wp_some fin)
    refine Inv_ld hI ?_ ?_ ?_ ?_ ?_ ?_ (fun a a1 a2 a3 a4 a5 => ?_)
    · rw [u140]
      exact HR_congr (fun d d1 d2 => uo _ (by omega) (by omega) (by omega)) c2
    · rw [u140]; exact h6
    · rw [u38, upd2_same]
    · rw [upd2_same]
    · rw [upd2_row (by decide), z2, u38, upd2_row (by decide), h3]
    · rw [upd2_row (by decide), z3, u38, upd2_row (by decide), h4]
    · rw [uo a a3 a4 a5]; exact hw a a1 a2
