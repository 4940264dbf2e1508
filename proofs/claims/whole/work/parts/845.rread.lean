-- ===== the reference follows the text =====
def FRr (M1 m : Mem) : Prop := (∀ a, a ≠ 139 → a ≠ 140 → m a = M1 a) ∧ ∀ k, k < 24 → m 139 k = M1 139 k
def RBs (M1 : Mem) (t : Nat → Int) (n : Nat) (N : Nat → Int) (m : Mem) : Prop := TXr t n m ∧ m 139 28 = 0 ∧ m 139 29 = -1 ∧ m 140 = N ∧ WF N ∧ FRr M1 m
def RKp (M1 : Mem) (t : Nat → Int) (n : Nat) (N : Nat → Int) (p : Nat) (m : Mem) : Prop := RBs M1 t n N m ∧ RTk t n p m ∧ p ≤ n
def REr (M1 : Mem) (t : Nat → Int) (n : Nat) (e : Er) (m : Mem) : Prop := m 139 28 = e.1 ∧ m 139 29 = e.2 ∧ (e.1 = 1 ∨ e.1 = 2 ∨ e.1 = 3) ∧ FRr M1 m ∧ ∀ k, 469 ≤ k → m 140 k = M1 140 k
/-- the row's end stays -/
def REd (M1 : Mem) (N : Nat → Int) : Prop := ∀ k, 469 ≤ k → N k = M1 140 k
set_option maxHeartbeats 600000 in
theorem R_next {M1 : Mem} {t : Nat → Int} {n p : Nat} {N : Nat → Int} {m : Mem} (h : RBs M1 t n N m) (hp : p ≤ n) (h24 : m 139 24 = (p : Int)) : wp (f_X12_next m) (fun z => RKp M1 t n N p z) := by
  obtain ⟨h1, h2, h3, h4, h5, h6⟩ := h
  refine wp_use (X12nxt h1 hp h24) (fun z hz => ⟨⟨TXr_fr h1 hz.1, ?_, ?_, ?_, h5, fun a a1 a2 => ?_, fun k hk => ?_⟩, hz.2, hp⟩)
  · rw [hz.1.2 28 (by omega)]; exact h2
  · rw [hz.1.2 29 (by omega)]; exact h3
  · rw [hz.1.1 140 (by decide)]; exact h4
  · rw [hz.1.1 a a1]; exact h6.1 a a1 a2
  · rw [hz.1.2 k (by omega)]; exact h6.2 k hk
set_option maxHeartbeats 600000 in
theorem R_adv {M1 : Mem} {t : Nat → Int} {n p : Nat} {N : Nat → Int} {m : Mem} (h : RKp M1 t n N p m) : wp (f_X12_next m) (fun z => RKp M1 t n N (tE t n p) z) := R_next h.1 (tk_rng h.2.2).2.2.1 h.2.1.2.2.1
set_option maxHeartbeats 600000 in
theorem R_well {M1 : Mem} {t : Nat → Int} {n : Nat} {N : Nat → Int} {m : Mem} (h : RBs M1 t n N m) : f_X12_isWell m = some 1 := by
  unfold f_X12_isWell
  rw [h.2.1]
  exact if_pos (by decide)
set_option maxHeartbeats 600000 in
theorem R_wellE {M1 : Mem} {t : Nat → Int} {n : Nat} {e : Er} {m : Mem} (h : REr M1 t n e m) : f_X12_isWell m = some 0 := by
  unfold f_X12_isWell
  have h3 := h.2.2.1
  rw [h.1]
  exact if_neg (by rw [w32_ok ⟨by omega, by omega⟩]; omega)
set_option maxHeartbeats 600000 in
theorem R_fails {M1 : Mem} {t : Nat → Int} {n : Nat} {N : Nat → Int} {m : Mem} (h : RBs M1 t n N m) (hE : REd M1 N) {c : Int} (hc : c = 1 ∨ c = 2 ∨ c = 3) {s : Int} (hs : m 139 25 = s) : wp (f_X12_fails c m) (fun z => REr M1 t n (c, s) z) := by
  unfold f_X12_fails
  rw [h.2.1]
  refine wp_ite_t (by decide) (wp_bnd (wp_bnd (wp_some ⟨?_, ?_, hc, ⟨fun a a1 a2 => ?_, fun k hk => ?_⟩, fun k hk => ?_⟩)))
  · rw [upd2_row (by omega), upd2_same]
  · rw [upd2_same, upd2_row (by omega)]; exact hs
  · rw [upd2_ne a1, upd2_ne a1]; exact h.2.2.2.2.2.1 a a1 a2
  · rw [upd2_row (by omega), upd2_row (by omega)]; exact h.2.2.2.2.2.2 k hk
  · rw [upd2_ne (by decide), upd2_ne (by decide), h.2.2.2.1]; exact hE k hk
set_option maxHeartbeats 600000 in
theorem R_failsE {M1 : Mem} {t : Nat → Int} {n : Nat} {e : Er} {m : Mem} (h : REr M1 t n e m) {c : Int} : f_X12_fails c m = some m := by
  unfold f_X12_fails
  have h3 := h.2.2.1
  rw [h.1]
  exact if_neg (by rw [w32_ok ⟨by omega, by omega⟩]; omega)
set_option maxHeartbeats 600000 in
theorem R_rdE {M1 : Mem} {t : Nat → Int} {n : Nat} {e : Er} {m : Mem} (h : REr M1 t n e m) {lo hi : Int} : wp (f_X12_read lo hi m) (fun r => r.2 = m) := by
  have j : wp (j_X12_read_33 lo m) (fun r => r.2 = m) := by
    unfold j_X12_read_33
    exact wp_cl1 (wp_eq (R_wellE h) (wp_ite_t (by decide) (wp_some rfl)))
  unfold f_X12_read f_X12_in
  refine wp_ite (fun _ => wp_cl1 ?_) (fun _ => wp_cl1 (wp_eq (R_failsE h) j))
  have k : wp (cl1 (f_X12_fails 2 m) (fun M_4 => j_X12_read_33 lo M_4)) (fun r => r.2 = m) := wp_cl1 (wp_eq (R_failsE h) j)
  refine wp_ite (fun _ => wp_some (wp_ite (fun _ => k) (fun _ => j))) (fun _ => wp_ite (fun _ => wp_some (wp_ite (fun _ => k) (fun _ => j))) (fun _ => wp_some (wp_ite (fun _ => k) (fun _ => j))))
set_option maxHeartbeats 600000 in
theorem R_rd {M1 : Mem} {t : Nat → Int} {n p : Nat} {N : Nat → Int} {m : Mem} (h : RKp M1 t n N p m) (hE : REd M1 N) {lo hi : Int} (hlo : -1000 ≤ lo ∧ lo ≤ 99999) (hhi : -1000 ≤ hi ∧ hi ≤ 99999) : wp (f_X12_read lo hi m) (fun r => (∃ e, rdN t n lo hi p = .inl e ∧ REr M1 t n e r.2) ∨ ∃ v q, rdN t n lo hi p = .inr (v, q) ∧ r.1 = v ∧ RKp M1 t n N q r.2 ∧ lo ≤ v ∧ v ≤ hi ∧ p < q) := by
  have tr := tk_rng (t := t) h.2.2
  obtain ⟨b, nb, hb⟩ := tN_rng (t := t) (n := n) (p := p)
  obtain ⟨c26, c25, c24, c27⟩ := h.2.1
  unfold f_X12_read
  rw [c26]
  by_cases k : tK t n p = 2
  · have e27 := c27 k
    rw [← hb] at e27
    unfold nmQ at nb
    rw [e27]
    refine wp_ite_t (by ((try simp (disch := omega) only [w32_and, w32_or, w32_shl, w32_shr, w32_xor, ixO, ixO0, ixO1, ixO2, ixO3, ixL0, ixL1, ixL2, ixC, ixB, ixI0, ixI00, ixI1, ixI2, ixI3, upd2_rd, upd2_nd, Nat.reduceEqDiff, Nat.reduceAdd, Nat.add_left_cancel_iff, Nat.add_right_cancel_iff, reduceCtorEq, ↓reduceIte, and_self, and_true, true_and, and_false, false_and, true_or, or_true, false_or, or_false, not_true_eq_false, not_false_eq_true]); (try simp only [w32_em]); (first | done | omega))) (wp_cl1 (wp_eq (X12inv (by omega) (by omega) (by omega)) ?_))
    by_cases w : lo ≤ tN t n p ∧ tN t n p ≤ hi
    · have es : rdN t n lo hi p = .inr (tN t n p, tE t n p) := by unfold rdN; rw [if_pos k, if_pos w]
      have eb : b = tN t n p := by omega
      rw [eb, show (if lo ≤ tN t n p ∧ tN t n p ≤ hi then (1 : Int) else 0) = 1 from if_pos w]
      unfold j_X12_read_33
      refine wp_ite_f (by decide) (wp_cl1 (wp_eq (R_well h.1) (wp_ite_f (by decide) (wp_bnd (wp_cl1 (wp_use (R_adv h) (fun z hz => wp_some (Or.inr ⟨_, _, es, ?_, hz, w.1, w.2, ?_⟩))))))))
      · show m 139 27 = _
        rw [e27, eb]
      · have := tr.2.2.2.2.1 (by omega); omega
    · have es : rdN t n lo hi p = .inl (2, ((tS t n p : Nat) : Int)) := by unfold rdN; rw [if_pos k, if_neg w]
      rw [show (if lo ≤ b ∧ b ≤ hi then (1 : Int) else 0) = 0 from if_neg (by omega)]
      refine wp_ite_t (by decide) (wp_cl1 (wp_use (R_fails h.1 hE (Or.inr (Or.inl rfl)) c25) (fun z hz => ?_)))
      unfold j_X12_read_33
      exact wp_cl1 (wp_eq (R_wellE hz) (wp_ite_t (by decide) (wp_some (Or.inl ⟨_, es, hz⟩))))
  · have es : rdN t n lo hi p = .inl (1, ((tS t n p : Nat) : Int)) := by unfold rdN; rw [if_neg k]
    refine wp_ite_f (by ((try simp (disch := omega) only [w32_and, w32_or, w32_shl, w32_shr, w32_xor, ixO, ixO0, ixO1, ixO2, ixO3, ixL0, ixL1, ixL2, ixC, ixB, ixI0, ixI00, ixI1, ixI2, ixI3, upd2_rd, upd2_nd, Nat.reduceEqDiff, Nat.reduceAdd, Nat.add_left_cancel_iff, Nat.add_right_cancel_iff, reduceCtorEq, ↓reduceIte, and_self, and_true, true_and, and_false, false_and, true_or, or_true, false_or, or_false, not_true_eq_false, not_false_eq_true]); (try simp only [w32_em]); (first | done | omega))) (wp_cl1 (wp_use (R_fails h.1 hE (Or.inl rfl) c25) (fun z hz => ?_)))
    unfold j_X12_read_33
    exact wp_cl1 (wp_eq (R_wellE hz) (wp_ite_t (by decide) (wp_some (Or.inl ⟨_, es, hz⟩))))
/-- what stands before the semicolon -/
def QRs (M1 : Mem) (t : Nat → Int) (n p0 : Nat) (q : Rs) (m : Mem) : Prop := (∃ e, q = .inl e ∧ REr M1 t n e m) ∨ ∃ (p : Nat) (N : Nat → Int), q = bdE (smc t n p) (fun x => .inr (x, N)) ∧ RKp M1 t n N p m ∧ p0 ≤ p ∧ REd M1 N
def PRs (M1 : Mem) (t : Nat → Int) (n p0 : Nat) (q : Rs) (m : Mem) : Prop := (∃ e, q = .inl e ∧ REr M1 t n e m) ∨ ∃ (p : Nat) (N : Nat → Int), q = .inr (p, N) ∧ RKp M1 t n N p m ∧ p0 < p ∧ REd M1 N
set_option maxHeartbeats 600000 in
theorem R_ends {M1 : Mem} {t : Nat → Int} {n p0 : Nat} {q : Rs} {m : Mem} (h : QRs M1 t n p0 q m) : wp (f_X12_ends m) (PRs M1 t n p0 q) := by
  unfold f_X12_ends
  rcases h with ⟨e, rfl, h⟩ | ⟨p, N, rfl, h, h0, hE⟩
  · have j : wp (j_X12_ends_13 m) (PRs M1 t n p0 (.inl e)) := by
      unfold j_X12_ends_13
      exact wp_cl1 (wp_eq (R_wellE h) (wp_ite_t (by decide) (wp_some (Or.inl ⟨e, rfl, h⟩))))
    exact wp_ite (fun _ => j) (fun _ => wp_cl1 (wp_eq (R_failsE h) j))
  · have tr := tk_rng (t := t) h.2.2
    obtain ⟨c26, c25, c24, c27⟩ := h.2.1
    rw [c26]
    by_cases k : tK t n p = 3
    · have es : smc t n p = .inr (tE t n p) := by unfold smc; rw [if_pos k]
      rw [es, bd_r]
      unfold j_X12_ends_13
      exact wp_ite_t (by ((try simp (disch := omega) only [w32_and, w32_or, w32_shl, w32_shr, w32_xor, ixO, ixO0, ixO1, ixO2, ixO3, ixL0, ixL1, ixL2, ixC, ixB, ixI0, ixI00, ixI1, ixI2, ixI3, upd2_rd, upd2_nd, Nat.reduceEqDiff, Nat.reduceAdd, Nat.add_left_cancel_iff, Nat.add_right_cancel_iff, reduceCtorEq, ↓reduceIte, and_self, and_true, true_and, and_false, false_and, true_or, or_true, false_or, or_false, not_true_eq_false, not_false_eq_true]); (try simp only [w32_em]); (first | done | omega))) (wp_cl1 (wp_eq (R_well h.1) (wp_ite_f (by decide) (wp_cl1 (wp_use (R_adv h) (fun z hz => wp_some (Or.inr ⟨_, _, rfl, hz, by have := tr.2.2.2.2.1 (by omega); omega, hE⟩)))))))
    · have es : smc t n p = .inl (1, ((tS t n p : Nat) : Int)) := by unfold smc; rw [if_neg k]
      rw [es, bd_l]
      refine wp_ite_f (by ((try simp (disch := omega) only [w32_and, w32_or, w32_shl, w32_shr, w32_xor, ixO, ixO0, ixO1, ixO2, ixO3, ixL0, ixL1, ixL2, ixC, ixB, ixI0, ixI00, ixI1, ixI2, ixI3, upd2_rd, upd2_nd, Nat.reduceEqDiff, Nat.reduceAdd, Nat.add_left_cancel_iff, Nat.add_right_cancel_iff, reduceCtorEq, ↓reduceIte, and_self, and_true, true_and, and_false, false_and, true_or, or_true, false_or, or_false, not_true_eq_false, not_false_eq_true]); (try simp only [w32_em]); (first | done | omega))) (wp_cl1 (wp_use (R_fails h.1 hE (Or.inl rfl) c25) (fun z hz => ?_)))
      unfold j_X12_ends_13
      exact wp_cl1 (wp_eq (R_wellE hz) (wp_ite_t (by decide) (wp_some (Or.inl ⟨_, rfl, hz⟩))))
set_option maxHeartbeats 600000 in
theorem R_95 {M1 : Mem} {t : Nat → Int} {n p0 : Nat} {q : Rs} {C : Option Mem} (h : wp C (QRs M1 t n p0 q)) : wp (cl1 C (fun M => j_X12_readStatement_95 M)) (PRs M1 t n p0 q) := by
  refine wp_cl1 (wp_use h (fun z hz => ?_))
  unfold j_X12_readStatement_95
  exact wp_cl1 (wp_use (R_ends hz) (fun y hy => wp_some hy))
set_option maxHeartbeats 600000 in
theorem RB_up {M1 : Mem} {t : Nat → Int} {n : Nat} {N N' : Nat → Int} {m z : Mem} (e : ∀ a, a ≠ 140 → z a = m a) (e4 : z 140 = N') (hW : WF N') (h : RBs M1 t n N m) : RBs M1 t n N' z := by
  obtain ⟨h1, h2, h3, h4, h5, h6⟩ := h
  refine ⟨⟨by rw [e 139 (by decide)]; exact h1.1, h1.2.1, fun i hi => by rw [e 155 (by decide)]; exact h1.2.2.1 i hi, by rw [e 156 (by decide)]; exact h1.2.2.2⟩, by rw [e 139 (by decide)]; exact h2, by rw [e 139 (by decide)]; exact h3, e4, hW, fun a a1 a2 => by rw [e a a2]; exact h6.1 a a1 a2, fun k hk => by rw [e 139 (by decide)]; exact h6.2 k hk⟩
set_option maxHeartbeats 600000 in
theorem RK_up {M1 : Mem} {t : Nat → Int} {n p : Nat} {N N' : Nat → Int} {m z : Mem} (e : ∀ a, a ≠ 140 → z a = m a) (e4 : z 140 = N') (hW : WF N') (h : RKp M1 t n N p m) : RKp M1 t n N' p z := by
  refine ⟨RB_up e e4 hW h.1, ?_, h.2.2⟩
  have := h.2.1
  unfold RTk at this ⊢
  rw [e 139 (by decide)]
  exact this
set_option maxHeartbeats 600000 in
theorem R_item {M1 : Mem} {t : Nat → Int} {n p : Nat} {N : Nat → Int} {m : Mem} (h : RKp M1 t n N p m) (hE : REd M1 N) : wp (f_X12_readItem m) (QRs M1 t n p (rItem t n N p)) := by
  have tr := tk_rng (t := t) h.2.2
  have hW := h.1.2.2.2.2.1
  have hw := hW.1
  have e140 := h.1.2.2.2.1
  unfold f_X12_readItem rItem
  rw [e140]
  by_cases k : N 3 = 24
  · rw [if_pos k]
    exact wp_ite_t (by ((try simp (disch := omega) only [w32_and, w32_or, w32_shl, w32_shr, w32_xor, ixO, ixO0, ixO1, ixO2, ixO3, ixL0, ixL1, ixL2, ixC, ixB, ixI0, ixI00, ixI1, ixI2, ixI3, upd2_rd, upd2_nd, Nat.reduceEqDiff, Nat.reduceAdd, Nat.add_left_cancel_iff, Nat.add_right_cancel_iff, reduceCtorEq, ↓reduceIte, and_self, and_true, true_and, and_false, false_and, true_or, or_true, false_or, or_false, not_true_eq_false, not_false_eq_true]); (try simp only [w32_em]); (first | done | omega))) (wp_cl1 (wp_use (R_fails h.1 hE (Or.inr (Or.inr rfl)) h.2.1.2.1) (fun z hz => wp_some (Or.inl ⟨_, rfl, hz⟩))))
  · rw [if_neg k]
    refine wp_ite_f (by ((try simp (disch := omega) only [w32_and, w32_or, w32_shl, w32_shr, w32_xor, ixO, ixO0, ixO1, ixO2, ixO3, ixL0, ixL1, ixL2, ixC, ixB, ixI0, ixI00, ixI1, ixI2, ixI3, upd2_rd, upd2_nd, Nat.reduceEqDiff, Nat.reduceAdd, Nat.add_left_cancel_iff, Nat.add_right_cancel_iff, reduceCtorEq, ↓reduceIte, and_self, and_true, true_and, and_false, false_and, true_or, or_true, false_or, or_false, not_true_eq_false, not_false_eq_true]); (try simp only [w32_em]); (first | done | omega))) (wp_cl1 (wp_use (R_adv h) (fun z hz => ?_)))
    rw [hz.1.2.2.2.1]
    have er4 : ∀ {e : Er} {y : Mem} (a b c : Int), REr M1 t n e y → wp (cl1 (f_X12_isWell y) (fun r_13 => (if w32 r_13 = 0 then some y else cl2 (f_X12_adds a b c 0 y) (fun r_15 M_16 => some M_16)))) (fun w => w = y) := fun a b c he => wp_cl1 (wp_eq (R_wellE he) (wp_ite_t (by decide) (wp_some rfl)))
    refine wp_cl2 (wp_use (R_rd hz hE (by omega) (by omega)) (fun r hr => ?_))
    rcases hr with ⟨e, e1, r2⟩ | ⟨v, q, e1, r1, r2, r4, r5, r6⟩
    · rw [e1, bd_l]
      refine wp_cl2 (wp_use (R_rdE r2) (fun s hs => wp_cl2 ?_))
      rw [hs]
      refine wp_use (R_rdE r2) (fun u hu => wp_cl2 ?_)
      rw [hu]
      refine wp_use (R_rdE r2) (fun w hw' => ?_)
      rw [hw']
      exact wp_cl1 (wp_eq (R_wellE r2) (wp_ite_t (by decide) (wp_some (Or.inl ⟨_, rfl, r2⟩))))
    rw [e1, bd_r, r1, r2.1.2.2.2.1]
    refine wp_cl2 (wp_use (R_rd r2 hE (by omega) (by omega)) (fun s hs => ?_))
    rcases hs with ⟨e, e2, s2⟩ | ⟨v2, q2, e2, s1, s2, s4, s5, s6⟩
    · rw [e2, bd_l]
      refine wp_cl2 (wp_use (R_rdE s2) (fun u hu => wp_cl2 ?_))
      rw [hu]
      refine wp_use (R_rdE s2) (fun w hw' => ?_)
      rw [hw']
      exact wp_cl1 (wp_eq (R_wellE s2) (wp_ite_t (by decide) (wp_some (Or.inl ⟨_, rfl, s2⟩))))
    rw [e2, bd_r, s1]
    refine wp_cl2 (wp_use (R_rd s2 hE (by omega) (by omega)) (fun u hu => ?_))
    rcases hu with ⟨e, e3, u2⟩ | ⟨v3, q3, e3, u1, u2, u4, u5, u6⟩
    · rw [e3, bd_l]
      refine wp_cl2 (wp_use (R_rdE u2) (fun w hw' => ?_))
      rw [hw']
      exact wp_cl1 (wp_eq (R_wellE u2) (wp_ite_t (by decide) (wp_some (Or.inl ⟨_, rfl, u2⟩))))
    rw [e3, bd_r, u1]
    refine wp_cl2 (wp_use (R_rd u2 hE (by omega) (by omega)) (fun w hw' => ?_))
    rcases hw' with ⟨e, e4, w2⟩ | ⟨v4, q4, e4, w1, w2, w4, w5, w6⟩
    · rw [e4, bd_l]
      exact wp_cl1 (wp_eq (R_wellE w2) (wp_ite_t (by decide) (wp_some (Or.inl ⟨_, rfl, w2⟩))))
    rw [e4, bd_r, w1]
    refine wp_cl1 (wp_eq (R_well w2.1) (wp_ite_f (by decide) (wp_cl2 (wp_use (X12adds w2.1.2.2.2.1 hW (by omega)) (fun x hx => wp_some (Or.inr ⟨q4, opItem N v v2 v3 v4, rfl, RK_up hx.2.2 hx.2.1 (WF_item hW (by omega) (by omega) (by omega) (by omega) (by omega)) w2, by omega, fun k hk => ?_⟩))))))
    rw [← hE k hk]
    unfold opItem
    rw [if_neg (by omega), if_neg (by omega), if_neg (by omega), if_neg (by omega), if_neg (by omega)]
