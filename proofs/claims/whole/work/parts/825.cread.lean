-- ===== the reader follows the text =====
/-- cells outside the draft and the reader stay -/
def FRd (M0 m : Mem) : Prop := ∀ a, a < 19 ∨ 36 < a → a ≠ 38 → m a = M0 a
def CBs (M0 : Mem) (t : Nat → Int) (n : Nat) (N : Nat → Int) (m : Mem) : Prop := TXt t n m ∧ m 38 2 = 0 ∧ m 38 3 = -1 ∧ HR 19 m N ∧ WF N ∧ FRd M0 m
def CKp (M0 : Mem) (t : Nat → Int) (n : Nat) (N : Nat → Int) (p : Nat) (m : Mem) : Prop := CBs M0 t n N m ∧ m 38 6 = (p : Int) ∧ p ≤ n
def CEr (M0 : Mem) (e : Er) (m : Mem) : Prop := m 38 2 = e.1 ∧ m 38 3 = e.2 ∧ FRd M0 m ∧ (e.1 = 1 ∨ e.1 = 2 ∨ e.1 = 3)
def PCs (M0 : Mem) (t : Nat → Int) (n p0 : Nat) (q : Rs) (r : Int × Mem) : Prop := match q with
  | .inl e => r.1 = 0 ∧ CEr M0 e r.2
  | .inr x => r.1 = 1 ∧ CKp M0 t n x.2 x.1 r.2 ∧ p0 < x.1
set_option maxHeartbeats 600000 in
theorem PC_l {M0 : Mem} {t : Nat → Int} {n p0 : Nat} {e : Er} {r : Int × Mem} (h1 : r.1 = 0) (h2 : CEr M0 e r.2) : PCs M0 t n p0 (.inl e) r := ⟨h1, h2⟩
set_option maxHeartbeats 600000 in
theorem PC_r {M0 : Mem} {t : Nat → Int} {n p0 p : Nat} {N : Nat → Int} {r : Int × Mem} (h1 : r.1 = 1) (h2 : CKp M0 t n N p r.2) (h3 : p0 < p) : PCs M0 t n p0 (.inr (p, N)) r := ⟨h1, h2, h3⟩
set_option maxHeartbeats 600000 in
theorem PC_01 {M0 : Mem} {t : Nat → Int} {n p0 : Nat} {q : Rs} {r : Int × Mem} (h : PCs M0 t n p0 q r) : r.1 = 0 ∨ r.1 = 1 := by
  cases q with
  | inl e => exact Or.inl h.1
  | inr x => exact Or.inr h.1
set_option maxHeartbeats 600000 in
theorem CB_F {M0 : Mem} {t : Nat → Int} {n : Nat} {N : Nat → Int} {m z : Mem} (f : F38 m z) (h : CBs M0 t n N m) : CBs M0 t n N z := by
  obtain ⟨h1, h2, h3, h4, h5, h6⟩ := h
  exact ⟨TXt_fr h1 f, by rw [f.2 2 (by omega)]; exact h2, by rw [f.2 3 (by omega)]; exact h3, HR_congr (fun d d1 d2 => f.1 _ (by omega)) h4, h5, fun a a1 a2 => (f.1 a a2).trans (h6 a a1 a2)⟩
set_option maxHeartbeats 600000 in
theorem CB_up {M0 : Mem} {t : Nat → Int} {n : Nat} {N N' : Nat → Int} {m z : Mem} (e : ∀ a, a < 19 ∨ 36 < a → z a = m a) (hR : HR 19 z N') (hW : WF N') (h : CBs M0 t n N m) : CBs M0 t n N' z := by
  obtain ⟨h1, h2, h3, h4, h5, h6⟩ := h
  refine ⟨⟨by rw [e 38 (by omega)]; exact h1.1, h1.2.1, fun i hi => by rw [e 39 (by omega)]; exact h1.2.2 i hi⟩, by rw [e 38 (by omega)]; exact h2, by rw [e 38 (by omega)]; exact h3, hR, hW, fun a a1 a2 => (e a a1).trans (h6 a a1 a2)⟩
set_option maxHeartbeats 600000 in
theorem C_fail {M0 : Mem} {t : Nat → Int} {n : Nat} {N : Nat → Int} {m : Mem} (h : CBs M0 t n N m) {c : Int} (hc : c = 1 ∨ c = 2 ∨ c = 3) {s : Int} (hs : m 38 5 = s) : wp (f_X10_fail c m) (fun r => r.1 = 0 ∧ CEr M0 (c, s) r.2) := by
  unfold f_X10_fail
  refine wp_bnd (wp_bnd (wp_some ⟨rfl, ?_, ?_, fun a a1 a2 => ?_, hc⟩))
  · dsimp only; rw [upd2_row (by omega), upd2_same]
  · dsimp only; rw [upd2_same, upd2_row (by omega)]; exact hs
  · dsimp only; rw [upd2_ne a2, upd2_ne a2]; exact h.2.2.2.2.2 a a1 a2
set_option maxHeartbeats 600000 in
theorem C_next {M0 : Mem} {t : Nat → Int} {n p : Nat} {N : Nat → Int} {m : Mem} (h : CKp M0 t n N p m) : wp (f_X10_nextToken m) (fun z => CBs M0 t n N z ∧ CTk t n p z) := wp_use (X10next h.1.1 h.2.2 h.2.1) (fun z hz => ⟨CB_F hz.1 h.1, hz.2⟩)
set_option maxHeartbeats 600000 in
theorem CK_of {M0 : Mem} {t : Nat → Int} {n p : Nat} {N : Nat → Int} {m : Mem} (h : CBs M0 t n N m) (hp : p ≤ n) (hC : CTk t n p m) : CKp M0 t n N (tE t n p) m := ⟨h, hC.2.2.1, (tk_rng hp).2.2.1⟩
set_option maxHeartbeats 600000 in
theorem C_rd {M0 : Mem} {t : Nat → Int} {n p : Nat} {N : Nat → Int} {m : Mem} (h : CKp M0 t n N p m) {lo hi : Int} (hlo : -1000 ≤ lo ∧ lo ≤ 99999) (hhi : -1000 ≤ hi ∧ hi ≤ 99999) : wp (f_X10_readNumber lo hi m) (fun r => (∃ e, rdN t n lo hi p = .inl e ∧ r.1 = 0 ∧ CEr M0 e r.2) ∨ ∃ v q, rdN t n lo hi p = .inr (v, q) ∧ r.1 = 1 ∧ CKp M0 t n N q r.2 ∧ r.2 38 7 = v ∧ lo ≤ v ∧ v ≤ hi ∧ p < q ∧ r.2 38 5 = ((tS t n p : Nat) : Int)) := by
  have tr := tk_rng (t := t) h.2.2
  obtain ⟨b, nb, _⟩ := tN_rng (t := t) (n := n) (p := p)
  unfold f_X10_readNumber j_X10_readNumber_35 f_X10_isWithin
  refine wp_cl1 (wp_use (C_next h) (fun z hz => ?_))
  obtain ⟨zB, z4, z5, z6, z7⟩ := hz
  rw [z4]
  by_cases k : tK t n p = 2
  · have e7 := z7 k
    unfold nmQ at nb
    rw [e7]
    by_cases w : lo ≤ tN t n p ∧ tN t n p ≤ hi
    · have es : rdN t n lo hi p = .inr (tN t n p, tE t n p) := by unfold rdN; rw [if_pos k, if_pos w]
      refine wp_ite_t (by ((try simp (disch := omega) only [w32_and, w32_or, w32_shl, w32_shr, w32_xor, ixO, ixO0, ixO1, ixO2, ixO3, ixL0, ixL1, ixL2, ixC, ixB, ixI0, ixI00, ixI1, ixI2, ixI3, upd2_rd, upd2_nd, Nat.reduceEqDiff, Nat.reduceAdd, Nat.add_left_cancel_iff, Nat.add_right_cancel_iff, reduceCtorEq, ↓reduceIte, and_self, and_true, true_and, and_false, false_and, true_or, or_true, false_or, or_false, not_true_eq_false, not_false_eq_true]); (try simp only [w32_em]); (first | done | omega))) (wp_cl1 (wp_ite_f (by ((try simp (disch := omega) only [w32_and, w32_or, w32_shl, w32_shr, w32_xor, ixO, ixO0, ixO1, ixO2, ixO3, ixL0, ixL1, ixL2, ixC, ixB, ixI0, ixI00, ixI1, ixI2, ixI3, upd2_rd, upd2_nd, Nat.reduceEqDiff, Nat.reduceAdd, Nat.add_left_cancel_iff, Nat.add_right_cancel_iff, reduceCtorEq, ↓reduceIte, and_self, and_true, true_and, and_false, false_and, true_or, or_true, false_or, or_false, not_true_eq_false, not_false_eq_true]); (try simp only [w32_em]); (first | done | omega))) (wp_ite_f (by ((try simp (disch := omega) only [w32_and, w32_or, w32_shl, w32_shr, w32_xor, ixO, ixO0, ixO1, ixO2, ixO3, ixL0, ixL1, ixL2, ixC, ixB, ixI0, ixI00, ixI1, ixI2, ixI3, upd2_rd, upd2_nd, Nat.reduceEqDiff, Nat.reduceAdd, Nat.add_left_cancel_iff, Nat.add_right_cancel_iff, reduceCtorEq, ↓reduceIte, and_self, and_true, true_and, and_false, false_and, true_or, or_true, false_or, or_false, not_true_eq_false, not_false_eq_true]); (try simp only [w32_em]); (first | done | omega))) (wp_some (wp_ite_f (by decide) (wp_some (Or.inr ⟨_, _, es, rfl, CK_of zB h.2.2 ⟨z4, z5, z6, z7⟩, e7, w.1, w.2, by have := tr.2.2.2.2.1 (by omega); omega, z5⟩)))))))
    · have es : rdN t n lo hi p = .inl (2, ((tS t n p : Nat) : Int)) := by unfold rdN; rw [if_pos k, if_neg w]
      have fl : ∀ {Q : Int × Mem → Prop}, (∀ r : Int × Mem, r.1 = 0 → CEr M0 (2, ((tS t n p : Nat) : Int)) r.2 → Q (0, r.2)) → wp (cl2 (f_X10_fail 2 z) (fun r_5 M_6 => (if w32 r_5 = 0 then some (0, M_6) else some (1, M_6)))) Q := fun hQ => wp_cl2 (wp_use (C_fail zB (Or.inr (Or.inl rfl)) z5) (fun r hr => wp_ite_t (by rw [hr.1]; decide) (wp_some (hQ r hr.1 hr.2))))
      refine wp_ite_t (by ((try simp (disch := omega) only [w32_and, w32_or, w32_shl, w32_shr, w32_xor, ixO, ixO0, ixO1, ixO2, ixO3, ixL0, ixL1, ixL2, ixC, ixB, ixI0, ixI00, ixI1, ixI2, ixI3, upd2_rd, upd2_nd, Nat.reduceEqDiff, Nat.reduceAdd, Nat.add_left_cancel_iff, Nat.add_right_cancel_iff, reduceCtorEq, ↓reduceIte, and_self, and_true, true_and, and_false, false_and, true_or, or_true, false_or, or_false, not_true_eq_false, not_false_eq_true]); (try simp only [w32_em]); (first | done | omega))) (wp_cl1 ?_)
      by_cases w1 : tN t n p < lo
      · exact wp_ite_t (by ((try simp (disch := omega) only [w32_and, w32_or, w32_shl, w32_shr, w32_xor, ixO, ixO0, ixO1, ixO2, ixO3, ixL0, ixL1, ixL2, ixC, ixB, ixI0, ixI00, ixI1, ixI2, ixI3, upd2_rd, upd2_nd, Nat.reduceEqDiff, Nat.reduceAdd, Nat.add_left_cancel_iff, Nat.add_right_cancel_iff, reduceCtorEq, ↓reduceIte, and_self, and_true, true_and, and_false, false_and, true_or, or_true, false_or, or_false, not_true_eq_false, not_false_eq_true]); (try simp only [w32_em]); (first | done | omega))) (wp_some (wp_ite_t (by decide) (fl (fun r a b => Or.inl ⟨_, es, rfl, b⟩))))
      · exact wp_ite_f (by ((try simp (disch := omega) only [w32_and, w32_or, w32_shl, w32_shr, w32_xor, ixO, ixO0, ixO1, ixO2, ixO3, ixL0, ixL1, ixL2, ixC, ixB, ixI0, ixI00, ixI1, ixI2, ixI3, upd2_rd, upd2_nd, Nat.reduceEqDiff, Nat.reduceAdd, Nat.add_left_cancel_iff, Nat.add_right_cancel_iff, reduceCtorEq, ↓reduceIte, and_self, and_true, true_and, and_false, false_and, true_or, or_true, false_or, or_false, not_true_eq_false, not_false_eq_true]); (try simp only [w32_em]); (first | done | omega))) (wp_ite_t (by ((try simp (disch := omega) only [w32_and, w32_or, w32_shl, w32_shr, w32_xor, ixO, ixO0, ixO1, ixO2, ixO3, ixL0, ixL1, ixL2, ixC, ixB, ixI0, ixI00, ixI1, ixI2, ixI3, upd2_rd, upd2_nd, Nat.reduceEqDiff, Nat.reduceAdd, Nat.add_left_cancel_iff, Nat.add_right_cancel_iff, reduceCtorEq, ↓reduceIte, and_self, and_true, true_and, and_false, false_and, true_or, or_true, false_or, or_false, not_true_eq_false, not_false_eq_true]); (try simp only [w32_em]); (first | done | omega))) (wp_some (wp_ite_t (by decide) (fl (fun r a b => Or.inl ⟨_, es, rfl, b⟩)))))
  · have es : rdN t n lo hi p = .inl (1, ((tS t n p : Nat) : Int)) := by unfold rdN; rw [if_neg k]
    refine wp_ite_f (by ((try simp (disch := omega) only [w32_and, w32_or, w32_shl, w32_shr, w32_xor, ixO, ixO0, ixO1, ixO2, ixO3, ixL0, ixL1, ixL2, ixC, ixB, ixI0, ixI00, ixI1, ixI2, ixI3, upd2_rd, upd2_nd, Nat.reduceEqDiff, Nat.reduceAdd, Nat.add_left_cancel_iff, Nat.add_right_cancel_iff, reduceCtorEq, ↓reduceIte, and_self, and_true, true_and, and_false, false_and, true_or, or_true, false_or, or_false, not_true_eq_false, not_false_eq_true]); (try simp only [w32_em]); (first | done | omega))) (wp_cl2 (wp_use (C_fail zB (Or.inl rfl) z5) (fun r hr => wp_gz (Or.inl hr.1) (wp_some (Or.inl ⟨_, es, hr.1, hr.2⟩)))))
set_option maxHeartbeats 600000 in
theorem C_sm {M0 : Mem} {t : Nat → Int} {n p : Nat} {N : Nat → Int} {m : Mem} (h : CKp M0 t n N p m) : wp (f_X10_readSemicolon m) (fun r => (∃ e, smc t n p = .inl e ∧ r.1 = 0 ∧ CEr M0 e r.2) ∨ ∃ q, smc t n p = .inr q ∧ r.1 = 1 ∧ CKp M0 t n N q r.2 ∧ p < q) := by
  have tr := tk_rng (t := t) h.2.2
  unfold f_X10_readSemicolon j_X10_readSemicolon_20
  refine wp_cl1 (wp_use (C_next h) (fun z hz => ?_))
  obtain ⟨zB, z4, z5, z6, z7⟩ := hz
  rw [z4]
  by_cases k : tK t n p = 3
  · have es : smc t n p = .inr (tE t n p) := by unfold smc; rw [if_pos k]
    exact wp_ite_t (by ((try simp (disch := omega) only [w32_and, w32_or, w32_shl, w32_shr, w32_xor, ixO, ixO0, ixO1, ixO2, ixO3, ixL0, ixL1, ixL2, ixC, ixB, ixI0, ixI00, ixI1, ixI2, ixI3, upd2_rd, upd2_nd, Nat.reduceEqDiff, Nat.reduceAdd, Nat.add_left_cancel_iff, Nat.add_right_cancel_iff, reduceCtorEq, ↓reduceIte, and_self, and_true, true_and, and_false, false_and, true_or, or_true, false_or, or_false, not_true_eq_false, not_false_eq_true]); (try simp only [w32_em]); (first | done | omega))) (wp_some (Or.inr ⟨_, es, rfl, CK_of zB h.2.2 ⟨z4, z5, z6, z7⟩, by have := tr.2.2.2.2.1 (by omega); omega⟩))
  · have es : smc t n p = .inl (1, ((tS t n p : Nat) : Int)) := by unfold smc; rw [if_neg k]
    exact wp_ite_f (by ((try simp (disch := omega) only [w32_and, w32_or, w32_shl, w32_shr, w32_xor, ixO, ixO0, ixO1, ixO2, ixO3, ixL0, ixL1, ixL2, ixC, ixB, ixI0, ixI00, ixI1, ixI2, ixI3, upd2_rd, upd2_nd, Nat.reduceEqDiff, Nat.reduceAdd, Nat.add_left_cancel_iff, Nat.add_right_cancel_iff, reduceCtorEq, ↓reduceIte, and_self, and_true, true_and, and_false, false_and, true_or, or_true, false_or, or_false, not_true_eq_false, not_false_eq_true]); (try simp only [w32_em]); (first | done | omega))) (wp_cl2 (wp_use (C_fail zB (Or.inl rfl) z5) (fun r hr => wp_ite_t (by rw [hr.1]; decide) (wp_some (Or.inl ⟨_, es, rfl, hr.2⟩)))))
set_option maxHeartbeats 600000 in
theorem C_end {M0 : Mem} {t : Nat → Int} {n p p0 : Nat} {N : Nat → Int} {m : Mem} (h : CKp M0 t n N p m) (hp : p0 ≤ p) : wp (cl2 (f_X10_readSemicolon m) (fun r_14 M_15 => gz r_14 (some (r_14, M_15)))) (PCs M0 t n p0 (bdE (smc t n p) (fun q => .inr (q, N)))) := by
  refine wp_cl2 (wp_use (C_sm h) (fun r hr => ?_))
  rcases hr with ⟨e, e1, r1, r2⟩ | ⟨q, e1, r1, r2, r3⟩
  · rw [e1, bd_l]
    exact wp_gz (Or.inl r1) (wp_some (PC_l r1 r2))
  · rw [e1, bd_r]
    exact wp_gz (Or.inr r1) (wp_some (PC_r r1 r2 (by omega)))
set_option maxHeartbeats 600000 in
theorem HR19 {M : Mem} {N : Nat → Int} (hR : HR 19 M N) : M 20 0 = N 0 ∧ M 20 1 = N 1 ∧ M 20 2 = N 2 ∧ M 23 0 = N 3 ∧ M 28 0 = N 4 := by
  obtain ⟨a, b, c, d, e⟩ := hR
  simp only [Nat.reduceAdd] at a c d
  exact ⟨a.1, a.2.1, a.2.2.1, c.1, d.1⟩
set_option maxHeartbeats 600000 in
theorem C_item {M0 : Mem} {t : Nat → Int} {n p : Nat} {N : Nat → Int} {m : Mem} (h : CBs M0 t n N m) (hp : p ≤ n) (hC : CTk t n p m) : wp (f_X10_readItem 19 m) (PCs M0 t n p (rItem t n N p)) := by
  have tr := tk_rng (t := t) hp
  have hR := h.2.2.2.1
  have hW := h.2.2.2.2.1
  have hw := hW.1
  obtain ⟨a0, a1, a2, a3, a4⟩ := HR19 hR
  unfold f_X10_readItem rItem
  simp only [Nat.reduceAdd]
  rw [a3, a0]
  by_cases k : N 3 = 24
  · rw [if_pos k]
    exact wp_ite_f (by ((try simp (disch := omega) only [w32_and, w32_or, w32_shl, w32_shr, w32_xor, ixO, ixO0, ixO1, ixO2, ixO3, ixL0, ixL1, ixL2, ixC, ixB, ixI0, ixI00, ixI1, ixI2, ixI3, upd2_rd, upd2_nd, Nat.reduceEqDiff, Nat.reduceAdd, Nat.add_left_cancel_iff, Nat.add_right_cancel_iff, reduceCtorEq, ↓reduceIte, and_self, and_true, true_and, and_false, false_and, true_or, or_true, false_or, or_false, not_true_eq_false, not_false_eq_true]); (try simp only [w32_em]); (first | done | omega))) (wp_cl2 (wp_use (C_fail h (Or.inr (Or.inr rfl)) hC.2.1) (fun r hr => wp_gz (Or.inl hr.1) (wp_some (PC_l hr.1 hr.2)))))
  · rw [if_neg k]
    refine wp_ite_t (by ((try simp (disch := omega) only [w32_and, w32_or, w32_shl, w32_shr, w32_xor, ixO, ixO0, ixO1, ixO2, ixO3, ixL0, ixL1, ixL2, ixC, ixB, ixI0, ixI00, ixI1, ixI2, ixI3, upd2_rd, upd2_nd, Nat.reduceEqDiff, Nat.reduceAdd, Nat.add_left_cancel_iff, Nat.add_right_cancel_iff, reduceCtorEq, ↓reduceIte, and_self, and_true, true_and, and_false, false_and, true_or, or_true, false_or, or_false, not_true_eq_false, not_false_eq_true]); (try simp only [w32_em]); (first | done | omega))) (wp_cl2 (wp_use (C_rd (CK_of h hp hC) (by omega) (by omega)) (fun r hr => ?_)))
    rcases hr with ⟨e, e1, r1, r2⟩ | ⟨v, q, e1, r1, r2, r3, r4, r5, r6, -⟩
    · rw [e1, bd_l]; exact wp_ite_t (by rw [r1]; decide) (wp_some (PC_l rfl r2))
    rw [e1, bd_r]
    have b1 : r.2 20 1 = N 1 := (HR19 r2.1.2.2.2.1).2.1
    refine wp_ite_f (by rw [r1]; decide) (wp_bnd (wp_cl2 ?_))
    rw [r3, b1]
    refine wp_use (C_rd r2 (by omega) (by omega)) (fun s hs => ?_)
    rcases hs with ⟨e, e2, s1, s2⟩ | ⟨v2, q2, e2, s1, s2, s3, s4, s5, s6, -⟩
    · rw [e2, bd_l]; exact wp_ite_t (by rw [s1]; decide) (wp_some (PC_l rfl s2))
    rw [e2, bd_r]
    refine wp_ite_f (by rw [s1]; decide) (wp_bnd (wp_cl2 ?_))
    rw [s3]
    refine wp_use (C_rd s2 (by omega) (by omega)) (fun u hu => ?_)
    rcases hu with ⟨e, e3, u1, u2⟩ | ⟨v3, q3, e3, u1, u2, u3, u4, u5, u6, -⟩
    · rw [e3, bd_l]; exact wp_ite_t (by rw [u1]; decide) (wp_some (PC_l rfl u2))
    rw [e3, bd_r]
    refine wp_ite_f (by rw [u1]; decide) (wp_bnd (wp_cl2 ?_))
    rw [u3]
    refine wp_use (C_rd u2 (by omega) (by omega)) (fun w hw' => ?_)
    rcases hw' with ⟨e, e4, w1, w2⟩ | ⟨v4, q4, e4, w1, w2, w3, w4, w5, w6, -⟩
    · rw [e4, bd_l]; exact wp_ite_t (by rw [w1]; decide) (wp_some (PC_l rfl w2))
    rw [e4, bd_r]
    refine wp_ite_f (by rw [w1]; decide) (wp_cl2 ?_)
    rw [w3]
    refine wp_use (X2app (h := 19) w2.1.2.2.2.1 hW (n := (N 3).toNat) (by omega) (by omega)) (fun x hx => ?_)
    have cb := CB_up (z := x.2) (fun a ha => hx.2.1 a (by omega)) hx.2.2 (WF_item hW (by omega) (by omega) (by omega) (by omega) (by omega)) w2.1
    exact C_end (p := q4) (p0 := p) ⟨cb, by rw [hx.2.1 38 (by omega)]; exact w2.2.1, w2.2.2⟩ (by omega)
