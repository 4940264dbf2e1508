-- ===== tokens of the text =====
def rn (P : Int → Bool) (t : Nat → Int) : Nat → Nat → Nat
  | 0, p => p
  | d + 1, p => if P (t p) = true then rn P t d (p + 1) else p
set_option maxHeartbeats 600000 in
theorem rn_rng {P : Int → Bool} {t : Nat → Int} : ∀ d p : Nat, p ≤ rn P t d p ∧ rn P t d p ≤ p + d := by
  intro d
  induction d with
  | zero => intro p; exact ⟨Nat.le_refl _, Nat.le_refl _⟩
  | succ d ih =>
    intro p
    simp only [rn]
    split
    · have := ih (p + 1); omega
    · omega
set_option maxHeartbeats 600000 in
theorem wp_rn {σ ρ : Type} {step : σ → Option (σ ⊕ ρ)} {P : Int → Bool} {t : Nat → Int} {n : Nat} (I : Nat → σ → Prop) (R : Nat → ρ → Prop) (h1 : ∀ p x, I p x → p < n → P (t p) = true → wp (step x) (Sum.elim (I (p + 1)) (fun _ => False))) (h2 : ∀ p x, I p x → p ≤ n → (p < n → P (t p) = false) → wp (step x) (Sum.elim (fun _ => False) (R p))) : ∀ (d p : Nat) (x : σ), p + d = n → I p x → wp (wh step x) (R (rn P t d p)) := by
  intro d
  induction d with
  | zero =>
    intro p x hp hx
    refine wp_unroll (wp_use (h2 p x hx (by omega) (fun h => by omega)) (fun a ha => ?_))
    cases a with
    | inl y => exact ha.elim
    | inr r => exact ha
  | succ d ih =>
    intro p x hp hx
    simp only [rn]
    cases c : P (t p)
    · refine wp_unroll (wp_use (h2 p x hx (by omega) (fun _ => c)) (fun a ha => ?_))
      cases a with
      | inl y => exact ha.elim
      | inr r => exact ha
    · refine wp_unroll (wp_use (h1 p x hx (by omega) c) (fun a ha => ?_))
      cases a with
      | inl y => exact ih (p + 1) y (by omega) ha
      | inr r => exact ha.elim
def blkB (c : Int) : Bool := decide (c = 32 ∨ c = 10)
def smlB (c : Int) : Bool := decide (97 ≤ c ∧ c ≤ 122)
def digB (c : Int) : Bool := decide (48 ≤ c ∧ c ≤ 57)
set_option maxHeartbeats 600000 in
theorem blk_t {c : Int} : blkB c = true ↔ (c = 32 ∨ c = 10) := decide_eq_true_iff
set_option maxHeartbeats 600000 in
theorem sml_t {c : Int} : smlB c = true ↔ (97 ≤ c ∧ c ≤ 122) := decide_eq_true_iff
set_option maxHeartbeats 600000 in
theorem dig_t {c : Int} : digB c = true ↔ (48 ≤ c ∧ c ≤ 57) := decide_eq_true_iff
set_option maxHeartbeats 600000 in
theorem blk_f {c : Int} : blkB c = false ↔ ¬ (c = 32 ∨ c = 10) := decide_eq_false_iff_not
set_option maxHeartbeats 600000 in
theorem sml_f {c : Int} : smlB c = false ↔ ¬ (97 ≤ c ∧ c ≤ 122) := decide_eq_false_iff_not
set_option maxHeartbeats 600000 in
theorem dig_f {c : Int} : digB c = false ↔ ¬ (48 ≤ c ∧ c ≤ 57) := decide_eq_false_iff_not
/-- where the token begins, read from place p on -/
def tS (t : Nat → Int) (n p : Nat) : Nat := rn blkB t (n - p) p
def kdS (t : Nat → Int) (n s : Nat) : Int := if s < n then (if smlB (t s) = true then 1 else if digB (t s) = true then 2 else if t s = 59 then 3 else 4) else 0
def enS (t : Nat → Int) (n s : Nat) : Nat := if s < n then (if smlB (t s) = true then rn smlB t (n - s) s else if digB (t s) = true then rn digB t (n - s) s else s + 1) else s
def nmC (t : Nat → Int) : Nat → Nat → Int → Int
  | 0, _, v => v
  | d + 1, p, v => if digB (t p) = true then nmC t d (p + 1) (if v < 100000 then v * 10 + t p - 48 else v) else v
def nmR (t : Nat → Int) : Nat → Nat → Int → Int
  | 0, _, v => v
  | d + 1, p, v => if digB (t p) = true then nmR t d (p + 1) (if 100000 < v then v else 10 * v + t p - 48) else v
def nmQ (a b : Int) : Prop := (a = b ∧ 0 ≤ a ∧ a < 100000) ∨ (100000 ≤ a ∧ a ≤ 1000000 ∧ 100000 ≤ b ∧ b ≤ 2000000)
set_option maxHeartbeats 600000 in
theorem nm_rel {t : Nat → Int} : ∀ (d p : Nat) (a b : Int), nmQ a b → nmQ (nmC t d p a) (nmR t d p b) := by
  intro d
  induction d with
  | zero => intro p a b h; exact h
  | succ d ih =>
    intro p a b h
    simp only [nmC, nmR]
    cases c : digB (t p)
    · exact h
    · rw [dig_t] at c
      simp only [↓reduceIte]
      refine ih _ _ _ ?_
      unfold nmQ at h ⊢
      by_cases h1 : a < 100000
      · rw [if_pos h1]
        by_cases h2 : 100000 < b
        · rw [if_pos h2]; omega
        · rw [if_neg h2]; omega
      · rw [if_neg h1]
        by_cases h2 : 100000 < b
        · rw [if_pos h2]; omega
        · rw [if_neg h2]; omega
def tE (t : Nat → Int) (n p : Nat) : Nat := enS t n (tS t n p)
def tK (t : Nat → Int) (n p : Nat) : Int := kdS t n (tS t n p)
def tN (t : Nat → Int) (n p : Nat) : Int := nmC t (n - tS t n p) (tS t n p) 0
set_option maxHeartbeats 600000 in
theorem tk_rng {t : Nat → Int} {n p : Nat} (hp : p ≤ n) : p ≤ tS t n p ∧ tS t n p ≤ tE t n p ∧ tE t n p ≤ n ∧ tS t n p ≤ n ∧ (tK t n p ≠ 0 → tS t n p < tE t n p) ∧ 0 ≤ tK t n p ∧ tK t n p ≤ 4 := by
  have a := rn_rng (P := blkB) (t := t) (n - p) p
  unfold tE tK tS
  generalize rn blkB t (n - p) p = s at *
  have b := rn_rng (P := smlB) (t := t) (n - s) s
  have c := rn_rng (P := digB) (t := t) (n - s) s
  unfold enS kdS
  by_cases h : s < n
  · rw [if_pos h, if_pos h]
    obtain ⟨d, hd⟩ : ∃ d, n - s = d + 1 := ⟨n - s - 1, by omega⟩
    cases e1 : smlB (t s)
    · cases e2 : digB (t s)
      · simp only [Bool.false_eq_true, ↓reduceIte]
        split <;> omega
      · simp only [Bool.false_eq_true, ↓reduceIte]
        have : s + 1 ≤ rn digB t (n - s) s := by
          rw [hd]
          simp only [rn, e2, ↓reduceIte]
          exact (rn_rng d (s + 1)).1
        omega
    · simp only [↓reduceIte]
      have : s + 1 ≤ rn smlB t (n - s) s := by
        rw [hd]
        simp only [rn, e1, ↓reduceIte]
        exact (rn_rng d (s + 1)).1
      omega
  · rw [if_neg h, if_neg h]
    omega
set_option maxHeartbeats 600000 in
theorem tN_rng {t : Nat → Int} {n p : Nat} : ∃ b, nmQ (tN t n p) b ∧ b = nmR t (n - tS t n p) (tS t n p) 0 := ⟨_, nm_rel _ _ 0 0 (Or.inl ⟨rfl, by omega, by omega⟩), rfl⟩
/-- the text that is read -/
def TXt (t : Nat → Int) (n : Nat) (m : Mem) : Prop := m 38 1 = (n : Int) ∧ n ≤ 600 ∧ ∀ i, i < n → m 39 i = t i ∧ -128 ≤ t i ∧ t i < 128
/-- only numbers of the reader from slot 4 on are changed -/
def F38 (m r : Mem) : Prop := (∀ a, a ≠ 38 → r a = m a) ∧ ∀ k, k < 4 → r 38 k = m 38 k
set_option maxHeartbeats 600000 in
theorem F38.rf {m : Mem} : F38 m m := ⟨fun _ _ => rfl, fun _ _ => rfl⟩
set_option maxHeartbeats 600000 in
theorem F38.tr {m r u : Mem} (h1 : F38 m r) (h2 : F38 r u) : F38 m u := ⟨fun a ha => (h2.1 a ha).trans (h1.1 a ha), fun k hk => (h2.2 k hk).trans (h1.2 k hk)⟩
set_option maxHeartbeats 600000 in
theorem F38.up {m : Mem} {k : Nat} {v : Int} (hk : 4 ≤ k) : F38 m (upd2 m 38 k v) := ⟨fun a ha => upd2_ne ha, fun j hj => upd2_row (by omega)⟩
set_option maxHeartbeats 600000 in
theorem TXt_fr {t : Nat → Int} {n : Nat} {m r : Mem} (h : TXt t n m) (f : F38 m r) : TXt t n r := ⟨by rw [f.2 1 (by omega)]; exact h.1, h.2.1, fun i hi => by rw [f.1 39 (by decide)]; exact h.2.2 i hi⟩
set_option maxHeartbeats 600000 in
theorem X10skip {t : Nat → Int} {n p : Nat} {m : Mem} (hT : TXt t n m) (hp : p ≤ n) (h6 : m 38 6 = (p : Int)) : wp (wh (fun x => s_X10_nextToken_0 x) m) (fun r => ∃ z : Mem, r = .inl z ∧ F38 m z ∧ z 38 6 = ((tS t n p : Nat) : Int)) := by
  show wp _ (fun (r : Mem ⊕ Mem) => ∃ z : Mem, r = .inl z ∧ F38 m z ∧ z 38 6 = ((rn blkB t (n - p) p : Nat) : Int))
  refine wp_rn (ρ := Mem ⊕ Mem) (P := blkB) (t := t) (n := n) (fun q x => F38 m x ∧ x 38 6 = (q : Int)) (fun q (r : Mem ⊕ Mem) => ∃ z : Mem, r = .inl z ∧ F38 m z ∧ z 38 6 = (q : Int)) ?_ ?_ (n - p) p m (by omega) ⟨F38.rf, h6⟩
  · rintro q x ⟨f, e6⟩ hq hc
    have tx := TXt_fr hT f
    have e1 := tx.1
    have et := tx.2.2 q hq
    have h600 := hT.2.1
    have xq : ix (q : Int) = q := ix_nat (by omega)
    rw [blk_t] at hc
    simp only [s_X10_nextToken_0, j_X10_nextToken_39_0, e6, e1, xq, et.1]
    refine wp_ite_t (by ((try simp (disch := omega) only [w32_and, w32_or, w32_shl, w32_shr, w32_xor, ixO, ixO0, ixO1, ixO2, ixO3, ixL0, ixL1, ixL2, ixC, ixB, ixI0, ixI00, ixI1, ixI2, ixI3, upd2_rd, upd2_nd, Nat.reduceEqDiff, Nat.reduceAdd, Nat.add_left_cancel_iff, Nat.add_right_cancel_iff, reduceCtorEq, ↓reduceIte, and_self, and_true, true_and, and_false, false_and, true_or, or_true, false_or, or_false, not_true_eq_false, not_false_eq_true]); (try simp only [w32_em]); (first | done | omega))) (wp_gi (by omega) (by omega) (by omega) ?_)
    have fin : Sum.elim (fun x => F38 m x ∧ x 38 6 = ((q + 1 : Nat) : Int)) (fun _ => False) (Sum.inl (upd2 x 38 6 ((q : Int) + 1)) : Mem ⊕ (Mem ⊕ Mem)) := ⟨f.tr (F38.up (by omega)), by rw [upd2_same]; omega⟩
    by_cases c : t q = 32
    · exact wp_ite_t (by ((try simp (disch := omega) only [w32_and, w32_or, w32_shl, w32_shr, w32_xor, ixO, ixO0, ixO1, ixO2, ixO3, ixL0, ixL1, ixL2, ixC, ixB, ixI0, ixI00, ixI1, ixI2, ixI3, upd2_rd, upd2_nd, Nat.reduceEqDiff, Nat.reduceAdd, Nat.add_left_cancel_iff, Nat.add_right_cancel_iff, reduceCtorEq, ↓reduceIte, and_self, and_true, true_and, and_false, false_and, true_or, or_true, false_or, or_false, not_true_eq_false, not_false_eq_true]); (try simp only [w32_em]); (first | done | omega))) (wp_bnd (wp_some fin))
    · exact wp_ite_f (by ((try simp (disch := omega) only [w32_and, w32_or, w32_shl, w32_shr, w32_xor, ixO, ixO0, ixO1, ixO2, ixO3, ixL0, ixL1, ixL2, ixC, ixB, ixI0, ixI00, ixI1, ixI2, ixI3, upd2_rd, upd2_nd, Nat.reduceEqDiff, Nat.reduceAdd, Nat.add_left_cancel_iff, Nat.add_right_cancel_iff, reduceCtorEq, ↓reduceIte, and_self, and_true, true_and, and_false, false_and, true_or, or_true, false_or, or_false, not_true_eq_false, not_false_eq_true]); (try simp only [w32_em]); (first | done | omega))) (wp_gi (by omega) (by omega) (by omega) (wp_ite_t (by ((try simp (disch := omega) only [w32_and, w32_or, w32_shl, w32_shr, w32_xor, ixO, ixO0, ixO1, ixO2, ixO3, ixL0, ixL1, ixL2, ixC, ixB, ixI0, ixI00, ixI1, ixI2, ixI3, upd2_rd, upd2_nd, Nat.reduceEqDiff, Nat.reduceAdd, Nat.add_left_cancel_iff, Nat.add_right_cancel_iff, reduceCtorEq, ↓reduceIte, and_self, and_true, true_and, and_false, false_and, true_or, or_true, false_or, or_false, not_true_eq_false, not_false_eq_true]); (try simp only [w32_em]); (first | done | omega))) (wp_bnd (wp_some fin))))
  · rintro q x ⟨f, e6⟩ hq hc
    have tx := TXt_fr hT f
    have e1 := tx.1
    have h600 := hT.2.1
    have xq : ix (q : Int) = q := ix_nat (by omega)
    simp only [s_X10_nextToken_0, j_X10_nextToken_39_0, e6, e1, xq]
    by_cases l : q < n
    · have et := tx.2.2 q l
      have c := hc l
      rw [blk_f] at c
      rw [et.1]
      exact wp_ite_t (by ((try simp (disch := omega) only [w32_and, w32_or, w32_shl, w32_shr, w32_xor, ixO, ixO0, ixO1, ixO2, ixO3, ixL0, ixL1, ixL2, ixC, ixB, ixI0, ixI00, ixI1, ixI2, ixI3, upd2_rd, upd2_nd, Nat.reduceEqDiff, Nat.reduceAdd, Nat.add_left_cancel_iff, Nat.add_right_cancel_iff, reduceCtorEq, ↓reduceIte, and_self, and_true, true_and, and_false, false_and, true_or, or_true, false_or, or_false, not_true_eq_false, not_false_eq_true]); (try simp only [w32_em]); (first | done | omega))) (wp_gi (by omega) (by omega) (by omega) (wp_ite_f (by ((try simp (disch := omega) only [w32_and, w32_or, w32_shl, w32_shr, w32_xor, ixO, ixO0, ixO1, ixO2, ixO3, ixL0, ixL1, ixL2, ixC, ixB, ixI0, ixI00, ixI1, ixI2, ixI3, upd2_rd, upd2_nd, Nat.reduceEqDiff, Nat.reduceAdd, Nat.add_left_cancel_iff, Nat.add_right_cancel_iff, reduceCtorEq, ↓reduceIte, and_self, and_true, true_and, and_false, false_and, true_or, or_true, false_or, or_false, not_true_eq_false, not_false_eq_true]); (try simp only [w32_em]); (first | done | omega))) (wp_gi (by omega) (by omega) (by omega) (wp_ite_f (by ((try simp (disch := omega) only [w32_and, w32_or, w32_shl, w32_shr, w32_xor, ixO, ixO0, ixO1, ixO2, ixO3, ixL0, ixL1, ixL2, ixC, ixB, ixI0, ixI00, ixI1, ixI2, ixI3, upd2_rd, upd2_nd, Nat.reduceEqDiff, Nat.reduceAdd, Nat.add_left_cancel_iff, Nat.add_right_cancel_iff, reduceCtorEq, ↓reduceIte, and_self, and_true, true_and, and_false, false_and, true_or, or_true, false_or, or_false, not_true_eq_false, not_false_eq_true]); (try simp only [w32_em]); (first | done | omega))) (wp_some ⟨x, rfl, f, e6⟩)))))
    · exact wp_ite_f (by ((try simp (disch := omega) only [w32_and, w32_or, w32_shl, w32_shr, w32_xor, ixO, ixO0, ixO1, ixO2, ixO3, ixL0, ixL1, ixL2, ixC, ixB, ixI0, ixI00, ixI1, ixI2, ixI3, upd2_rd, upd2_nd, Nat.reduceEqDiff, Nat.reduceAdd, Nat.add_left_cancel_iff, Nat.add_right_cancel_iff, reduceCtorEq, ↓reduceIte, and_self, and_true, true_and, and_false, false_and, true_or, or_true, false_or, or_false, not_true_eq_false, not_false_eq_true]); (try simp only [w32_em]); (first | done | omega))) (wp_some ⟨x, rfl, f, e6⟩)
set_option maxHeartbeats 600000 in
theorem X10word {t : Nat → Int} {n p : Nat} {m : Mem} (hT : TXt t n m) (hp : p ≤ n) (h6 : m 38 6 = (p : Int)) : wp (f_X10_passWord m) (fun z => F38 m z ∧ z 38 6 = ((rn smlB t (n - p) p : Nat) : Int) ∧ z 38 4 = m 38 4 ∧ z 38 5 = m 38 5 ∧ z 38 7 = m 38 7) := by
  unfold f_X10_passWord
  refine wp_lpb (wp_use (wp_rn (P := smlB) (t := t) (n := n) (fun q x => F38 m x ∧ x 38 6 = (q : Int) ∧ x 38 4 = m 38 4 ∧ x 38 5 = m 38 5 ∧ x 38 7 = m 38 7) (fun q r => ∃ z : Mem, r = .inl z ∧ F38 m z ∧ z 38 6 = (q : Int) ∧ z 38 4 = m 38 4 ∧ z 38 5 = m 38 5 ∧ z 38 7 = m 38 7) ?_ ?_ (n - p) p m (by omega) ⟨F38.rf, h6, rfl, rfl, rfl⟩) (fun r hr => ?_))
  · rintro q x ⟨f, e6, g⟩ hq hc
    have tx := TXt_fr hT f
    have e1 := tx.1
    have et := tx.2.2 q hq
    have h600 := hT.2.1
    have xq : ix (q : Int) = q := ix_nat (by omega)
    rw [sml_t] at hc
    simp only [s_X10_passWord_0, e6, e1, xq, et.1]
    exact wp_ite_t (by ((try simp (disch := omega) only [w32_and, w32_or, w32_shl, w32_shr, w32_xor, ixO, ixO0, ixO1, ixO2, ixO3, ixL0, ixL1, ixL2, ixC, ixB, ixI0, ixI00, ixI1, ixI2, ixI3, upd2_rd, upd2_nd, Nat.reduceEqDiff, Nat.reduceAdd, Nat.add_left_cancel_iff, Nat.add_right_cancel_iff, reduceCtorEq, ↓reduceIte, and_self, and_true, true_and, and_false, false_and, true_or, or_true, false_or, or_false, not_true_eq_false, not_false_eq_true]); (try simp only [w32_em]); (first | done | omega))) (wp_gi (by omega) (by omega) (by omega) (wp_ite_f (by ((try simp (disch := omega) only [w32_and, w32_or, w32_shl, w32_shr, w32_xor, ixO, ixO0, ixO1, ixO2, ixO3, ixL0, ixL1, ixL2, ixC, ixB, ixI0, ixI00, ixI1, ixI2, ixI3, upd2_rd, upd2_nd, Nat.reduceEqDiff, Nat.reduceAdd, Nat.add_left_cancel_iff, Nat.add_right_cancel_iff, reduceCtorEq, ↓reduceIte, and_self, and_true, true_and, and_false, false_and, true_or, or_true, false_or, or_false, not_true_eq_false, not_false_eq_true]); (try simp only [w32_em]); (first | done | omega))) (wp_gi (by omega) (by omega) (by omega) (wp_ite_f (by ((try simp (disch := omega) only [w32_and, w32_or, w32_shl, w32_shr, w32_xor, ixO, ixO0, ixO1, ixO2, ixO3, ixL0, ixL1, ixL2, ixC, ixB, ixI0, ixI00, ixI1, ixI2, ixI3, upd2_rd, upd2_nd, Nat.reduceEqDiff, Nat.reduceAdd, Nat.add_left_cancel_iff, Nat.add_right_cancel_iff, reduceCtorEq, ↓reduceIte, and_self, and_true, true_and, and_false, false_and, true_or, or_true, false_or, or_false, not_true_eq_false, not_false_eq_true]); (try simp only [w32_em]); (first | done | omega))) (wp_bnd (wp_some ⟨f.tr (F38.up (by omega)), by rw [upd2_same]; omega, by rw [upd2_row (by omega)]; exact g.1, by rw [upd2_row (by omega)]; exact g.2.1, by rw [upd2_row (by omega)]; exact g.2.2⟩))))))
  · rintro q x ⟨f, e6, g⟩ hq hc
    have tx := TXt_fr hT f
    have e1 := tx.1
    have h600 := hT.2.1
    have xq : ix (q : Int) = q := ix_nat (by omega)
    simp only [s_X10_passWord_0, e6, e1, xq]
    by_cases l : q < n
    · have et := tx.2.2 q l
      have c := hc l
      rw [sml_f] at c
      rw [et.1]
      refine wp_ite_t (by ((try simp (disch := omega) only [w32_and, w32_or, w32_shl, w32_shr, w32_xor, ixO, ixO0, ixO1, ixO2, ixO3, ixL0, ixL1, ixL2, ixC, ixB, ixI0, ixI00, ixI1, ixI2, ixI3, upd2_rd, upd2_nd, Nat.reduceEqDiff, Nat.reduceAdd, Nat.add_left_cancel_iff, Nat.add_right_cancel_iff, reduceCtorEq, ↓reduceIte, and_self, and_true, true_and, and_false, false_and, true_or, or_true, false_or, or_false, not_true_eq_false, not_false_eq_true]); (try simp only [w32_em]); (first | done | omega))) (wp_gi (by omega) (by omega) (by omega) ?_)
      by_cases c1 : t q < 97
      · exact wp_ite_t (by ((try simp (disch := omega) only [w32_and, w32_or, w32_shl, w32_shr, w32_xor, ixO, ixO0, ixO1, ixO2, ixO3, ixL0, ixL1, ixL2, ixC, ixB, ixI0, ixI00, ixI1, ixI2, ixI3, upd2_rd, upd2_nd, Nat.reduceEqDiff, Nat.reduceAdd, Nat.add_left_cancel_iff, Nat.add_right_cancel_iff, reduceCtorEq, ↓reduceIte, and_self, and_true, true_and, and_false, false_and, true_or, or_true, false_or, or_false, not_true_eq_false, not_false_eq_true]); (try simp only [w32_em]); (first | done | omega))) (wp_some ⟨x, rfl, f, e6, g⟩)
      · exact wp_ite_f (by ((try simp (disch := omega) only [w32_and, w32_or, w32_shl, w32_shr, w32_xor, ixO, ixO0, ixO1, ixO2, ixO3, ixL0, ixL1, ixL2, ixC, ixB, ixI0, ixI00, ixI1, ixI2, ixI3, upd2_rd, upd2_nd, Nat.reduceEqDiff, Nat.reduceAdd, Nat.add_left_cancel_iff, Nat.add_right_cancel_iff, reduceCtorEq, ↓reduceIte, and_self, and_true, true_and, and_false, false_and, true_or, or_true, false_or, or_false, not_true_eq_false, not_false_eq_true]); (try simp only [w32_em]); (first | done | omega))) (wp_gi (by omega) (by omega) (by omega) (wp_ite_t (by ((try simp (disch := omega) only [w32_and, w32_or, w32_shl, w32_shr, w32_xor, ixO, ixO0, ixO1, ixO2, ixO3, ixL0, ixL1, ixL2, ixC, ixB, ixI0, ixI00, ixI1, ixI2, ixI3, upd2_rd, upd2_nd, Nat.reduceEqDiff, Nat.reduceAdd, Nat.add_left_cancel_iff, Nat.add_right_cancel_iff, reduceCtorEq, ↓reduceIte, and_self, and_true, true_and, and_false, false_and, true_or, or_true, false_or, or_false, not_true_eq_false, not_false_eq_true]); (try simp only [w32_em]); (first | done | omega))) (wp_some ⟨x, rfl, f, e6, g⟩)))
    · exact wp_ite_f (by ((try simp (disch := omega) only [w32_and, w32_or, w32_shl, w32_shr, w32_xor, ixO, ixO0, ixO1, ixO2, ixO3, ixL0, ixL1, ixL2, ixC, ixB, ixI0, ixI00, ixI1, ixI2, ixI3, upd2_rd, upd2_nd, Nat.reduceEqDiff, Nat.reduceAdd, Nat.add_left_cancel_iff, Nat.add_right_cancel_iff, reduceCtorEq, ↓reduceIte, and_self, and_true, true_and, and_false, false_and, true_or, or_true, false_or, or_false, not_true_eq_false, not_false_eq_true]); (try simp only [w32_em]); (first | done | omega))) (wp_some ⟨x, rfl, f, e6, g⟩)
  · obtain ⟨z, rfl, g⟩ := hr
    dsimp only [Sum.elim_inl, Sum.elim_inr]
    exact wp_some g
set_option maxHeartbeats 600000 in
theorem nmC_end {t : Nat → Int} {d p : Nat} {v : Int} (h : d = 0 ∨ digB (t p) = false) : nmC t d p v = v := by
  cases d with
  | zero => rfl
  | succ d =>
    rcases h with h | h
    · omega
    · simp only [nmC, h, Bool.false_eq_true, ↓reduceIte]
set_option maxHeartbeats 600000 in
theorem nmR_end {t : Nat → Int} {d p : Nat} {v : Int} (h : d = 0 ∨ digB (t p) = false) : nmR t d p v = v := by
  cases d with
  | zero => rfl
  | succ d =>
    rcases h with h | h
    · omega
    · simp only [nmR, h, Bool.false_eq_true, ↓reduceIte]
set_option maxHeartbeats 600000 in
theorem X10num {t : Nat → Int} {n p : Nat} {m : Mem} (hT : TXt t n m) (hp : p ≤ n) (h6 : m 38 6 = (p : Int)) : wp (f_X10_passNumber m) (fun z => F38 m z ∧ z 38 6 = ((rn digB t (n - p) p : Nat) : Int) ∧ z 38 4 = m 38 4 ∧ z 38 5 = m 38 5 ∧ z 38 7 = nmC t (n - p) p 0) := by
  unfold f_X10_passNumber
  refine wp_bnd (wp_lpb (wp_use (wp_rn (P := digB) (t := t) (n := n) (fun q x => F38 m x ∧ x 38 6 = (q : Int) ∧ x 38 4 = m 38 4 ∧ x 38 5 = m 38 5 ∧ ∃ v : Int, x 38 7 = v ∧ 0 ≤ v ∧ v ≤ 1000000 ∧ nmC t (n - q) q v = nmC t (n - p) p 0) (fun q r => ∃ z : Mem, r = .inl z ∧ F38 m z ∧ z 38 6 = (q : Int) ∧ z 38 4 = m 38 4 ∧ z 38 5 = m 38 5 ∧ z 38 7 = nmC t (n - p) p 0) ?_ ?_ (n - p) p (upd2 m 38 7 0) (by omega) ⟨F38.up (by omega), by rw [upd2_row (by omega)]; exact h6, upd2_row (by omega), upd2_row (by omega), 0, upd2_same, by omega, by omega, rfl⟩) (fun r hr => ?_)))
  · rintro q x ⟨f, e6, g4, g5, v, e7, v0, v1, hv⟩ hq hc
    have tx := TXt_fr hT f
    have e1 := tx.1
    have et := tx.2.2 q hq
    have h600 := hT.2.1
    have xq : ix (q : Int) = q := ix_nat (by omega)
    have hs : nmC t (n - q) q v = nmC t (n - (q + 1)) (q + 1) (if v < 100000 then v * 10 + t q - 48 else v) := by
      obtain ⟨d, hd⟩ : ∃ d, n - q = d + 1 := ⟨n - q - 1, by omega⟩
      rw [hd, show n - (q + 1) = d by omega]
      simp only [nmC, hc, ↓reduceIte]
    rw [dig_t] at hc
    simp only [s_X10_passNumber_5, j_X10_passNumber_77_5, e6, e1, xq, et.1, e7]
    refine wp_ite_t (by ((try simp (disch := omega) only [w32_and, w32_or, w32_shl, w32_shr, w32_xor, ixO, ixO0, ixO1, ixO2, ixO3, ixL0, ixL1, ixL2, ixC, ixB, ixI0, ixI00, ixI1, ixI2, ixI3, upd2_rd, upd2_nd, Nat.reduceEqDiff, Nat.reduceAdd, Nat.add_left_cancel_iff, Nat.add_right_cancel_iff, reduceCtorEq, ↓reduceIte, and_self, and_true, true_and, and_false, false_and, true_or, or_true, false_or, or_false, not_true_eq_false, not_false_eq_true]); (try simp only [w32_em]); (first | done | omega))) (wp_gi (by omega) (by omega) (by omega) (wp_ite_f (by ((try simp (disch := omega) only [w32_and, w32_or, w32_shl, w32_shr, w32_xor, ixO, ixO0, ixO1, ixO2, ixO3, ixL0, ixL1, ixL2, ixC, ixB, ixI0, ixI00, ixI1, ixI2, ixI3, upd2_rd, upd2_nd, Nat.reduceEqDiff, Nat.reduceAdd, Nat.add_left_cancel_iff, Nat.add_right_cancel_iff, reduceCtorEq, ↓reduceIte, and_self, and_true, true_and, and_false, false_and, true_or, or_true, false_or, or_false, not_true_eq_false, not_false_eq_true]); (try simp only [w32_em]); (first | done | omega))) (wp_gi (by omega) (by omega) (by omega) (wp_ite_f (by ((try simp (disch := omega) only [w32_and, w32_or, w32_shl, w32_shr, w32_xor, ixO, ixO0, ixO1, ixO2, ixO3, ixL0, ixL1, ixL2, ixC, ixB, ixI0, ixI00, ixI1, ixI2, ixI3, upd2_rd, upd2_nd, Nat.reduceEqDiff, Nat.reduceAdd, Nat.add_left_cancel_iff, Nat.add_right_cancel_iff, reduceCtorEq, ↓reduceIte, and_self, and_true, true_and, and_false, false_and, true_or, or_true, false_or, or_false, not_true_eq_false, not_false_eq_true]); (try simp only [w32_em]); (first | done | omega))) ?_))))
    by_cases c : v < 100000
    · rw [if_pos c] at hs
      refine wp_ite_t (by ((try simp (disch := omega) only [w32_and, w32_or, w32_shl, w32_shr, w32_xor, ixO, ixO0, ixO1, ixO2, ixO3, ixL0, ixL1, ixL2, ixC, ixB, ixI0, ixI00, ixI1, ixI2, ixI3, upd2_rd, upd2_nd, Nat.reduceEqDiff, Nat.reduceAdd, Nat.add_left_cancel_iff, Nat.add_right_cancel_iff, reduceCtorEq, ↓reduceIte, and_self, and_true, true_and, and_false, false_and, true_or, or_true, false_or, or_false, not_true_eq_false, not_false_eq_true]); (try simp only [w32_em]); (first | done | omega))) (wp_gi (by omega) (by omega) (by omega) (wp_bnd (wp_bnd (wp_some ?_))))
      refine ⟨f.tr ((F38.up (by omega)).tr (F38.up (by omega))), ?_, ?_, ?_, v * 10 + t q - 48, ?_, by omega, by omega, by rw [← hs]; exact hv⟩
      · rw [upd2_same, upd2_row (by omega), e6]; omega
      · rw [upd2_row (by omega), upd2_row (by omega)]; exact g4
      · rw [upd2_row (by omega), upd2_row (by omega)]; exact g5
      · rw [upd2_row (by omega), upd2_same]
    · rw [if_neg c] at hs
      refine wp_ite_f (by ((try simp (disch := omega) only [w32_and, w32_or, w32_shl, w32_shr, w32_xor, ixO, ixO0, ixO1, ixO2, ixO3, ixL0, ixL1, ixL2, ixC, ixB, ixI0, ixI00, ixI1, ixI2, ixI3, upd2_rd, upd2_nd, Nat.reduceEqDiff, Nat.reduceAdd, Nat.add_left_cancel_iff, Nat.add_right_cancel_iff, reduceCtorEq, ↓reduceIte, and_self, and_true, true_and, and_false, false_and, true_or, or_true, false_or, or_false, not_true_eq_false, not_false_eq_true]); (try simp only [w32_em]); (first | done | omega))) (wp_bnd (wp_some ?_))
      refine ⟨f.tr (F38.up (by omega)), ?_, ?_, ?_, v, ?_, v0, v1, by rw [← hs]; exact hv⟩
      · rw [upd2_same]; omega
      · rw [upd2_row (by omega)]; exact g4
      · rw [upd2_row (by omega)]; exact g5
      · rw [upd2_row (by omega)]; exact e7
  · rintro q x ⟨f, e6, g4, g5, v, e7, v0, v1, hv⟩ hq hc
    have tx := TXt_fr hT f
    have e1 := tx.1
    have h600 := hT.2.1
    have xq : ix (q : Int) = q := ix_nat (by omega)
    have ev : x 38 7 = nmC t (n - p) p 0 := by
      rw [e7, ← hv, nmC_end]
      by_cases l : q < n
      · exact Or.inr (hc l)
      · exact Or.inl (by omega)
    simp only [s_X10_passNumber_5, j_X10_passNumber_77_5, e6, e1, xq]
    by_cases l : q < n
    · have et := tx.2.2 q l
      have c := hc l
      rw [dig_f] at c
      rw [et.1]
      refine wp_ite_t (by ((try simp (disch := omega) only [w32_and, w32_or, w32_shl, w32_shr, w32_xor, ixO, ixO0, ixO1, ixO2, ixO3, ixL0, ixL1, ixL2, ixC, ixB, ixI0, ixI00, ixI1, ixI2, ixI3, upd2_rd, upd2_nd, Nat.reduceEqDiff, Nat.reduceAdd, Nat.add_left_cancel_iff, Nat.add_right_cancel_iff, reduceCtorEq, ↓reduceIte, and_self, and_true, true_and, and_false, false_and, true_or, or_true, false_or, or_false, not_true_eq_false, not_false_eq_true]); (try simp only [w32_em]); (first | done | omega))) (wp_gi (by omega) (by omega) (by omega) ?_)
      by_cases c1 : t q < 48
      · exact wp_ite_t (by ((try simp (disch := omega) only [w32_and, w32_or, w32_shl, w32_shr, w32_xor, ixO, ixO0, ixO1, ixO2, ixO3, ixL0, ixL1, ixL2, ixC, ixB, ixI0, ixI00, ixI1, ixI2, ixI3, upd2_rd, upd2_nd, Nat.reduceEqDiff, Nat.reduceAdd, Nat.add_left_cancel_iff, Nat.add_right_cancel_iff, reduceCtorEq, ↓reduceIte, and_self, and_true, true_and, and_false, false_and, true_or, or_true, false_or, or_false, not_true_eq_false, not_false_eq_true]); (try simp only [w32_em]); (first | done | omega))) (wp_some ⟨x, rfl, f, e6, g4, g5, ev⟩)
      · exact wp_ite_f (by ((try simp (disch := omega) only [w32_and, w32_or, w32_shl, w32_shr, w32_xor, ixO, ixO0, ixO1, ixO2, ixO3, ixL0, ixL1, ixL2, ixC, ixB, ixI0, ixI00, ixI1, ixI2, ixI3, upd2_rd, upd2_nd, Nat.reduceEqDiff, Nat.reduceAdd, Nat.add_left_cancel_iff, Nat.add_right_cancel_iff, reduceCtorEq, ↓reduceIte, and_self, and_true, true_and, and_false, false_and, true_or, or_true, false_or, or_false, not_true_eq_false, not_false_eq_true]); (try simp only [w32_em]); (first | done | omega))) (wp_gi (by omega) (by omega) (by omega) (wp_ite_t (by ((try simp (disch := omega) only [w32_and, w32_or, w32_shl, w32_shr, w32_xor, ixO, ixO0, ixO1, ixO2, ixO3, ixL0, ixL1, ixL2, ixC, ixB, ixI0, ixI00, ixI1, ixI2, ixI3, upd2_rd, upd2_nd, Nat.reduceEqDiff, Nat.reduceAdd, Nat.add_left_cancel_iff, Nat.add_right_cancel_iff, reduceCtorEq, ↓reduceIte, and_self, and_true, true_and, and_false, false_and, true_or, or_true, false_or, or_false, not_true_eq_false, not_false_eq_true]); (try simp only [w32_em]); (first | done | omega))) (wp_some ⟨x, rfl, f, e6, g4, g5, ev⟩)))
    · exact wp_ite_f (by ((try simp (disch := omega) only [w32_and, w32_or, w32_shl, w32_shr, w32_xor, ixO, ixO0, ixO1, ixO2, ixO3, ixL0, ixL1, ixL2, ixC, ixB, ixI0, ixI00, ixI1, ixI2, ixI3, upd2_rd, upd2_nd, Nat.reduceEqDiff, Nat.reduceAdd, Nat.add_left_cancel_iff, Nat.add_right_cancel_iff, reduceCtorEq, ↓reduceIte, and_self, and_true, true_and, and_false, false_and, true_or, or_true, false_or, or_false, not_true_eq_false, not_false_eq_true]); (try simp only [w32_em]); (first | done | omega))) (wp_some ⟨x, rfl, f, e6, g4, g5, ev⟩)
  · obtain ⟨z, rfl, g⟩ := hr
    dsimp only [Sum.elim_inl, Sum.elim_inr]
    exact wp_some g
/-- the token of place p stands in the reader -/
def CTk (t : Nat → Int) (n p : Nat) (m : Mem) : Prop := m 38 4 = tK t n p ∧ m 38 5 = ((tS t n p : Nat) : Int) ∧ m 38 6 = ((tE t n p : Nat) : Int) ∧ (tK t n p = 2 → m 38 7 = tN t n p)
set_option maxHeartbeats 600000 in
theorem X10next {t : Nat → Int} {n p : Nat} {m : Mem} (hT : TXt t n m) (hp : p ≤ n) (h6 : m 38 6 = (p : Int)) : wp (f_X10_nextToken m) (fun z => F38 m z ∧ CTk t n p z) := by
  have h600 := hT.2.1
  unfold f_X10_nextToken
  refine wp_lpb (wp_use (X10skip hT hp h6) (fun r hr => ?_))
  obtain ⟨z, rfl, z1, z2⟩ := hr
  dsimp only [Sum.elim_inl, Sum.elim_inr]
  have tr := tk_rng (t := t) hp
  unfold CTk tK tE tN
  generalize hs : tS t n p = s at *
  have fz : F38 m (upd2 z 38 5 (s : Int)) := z1.tr (F38.up (by omega))
  have tx := TXt_fr hT fz
  have e1 := tx.1
  have e5 : upd2 z 38 5 (s : Int) 38 5 = (s : Int) := upd2_same
  have e6 : upd2 z 38 5 (s : Int) 38 6 = (s : Int) := by rw [upd2_row (by omega)]; exact z2
  have xs : ix (s : Int) = s := ix_nat (by omega)
  unfold j_X10_nextToken_52
  rw [z2]
  refine wp_bnd ?_
  generalize upd2 z 38 5 (s : Int) = w at *
  rw [e5, e1, xs]
  by_cases l : s < n
  · have et := tx.2.2 s l
    rw [et.1]
    refine wp_ite_t (by ((try simp (disch := omega) only [w32_and, w32_or, w32_shl, w32_shr, w32_xor, ixO, ixO0, ixO1, ixO2, ixO3, ixL0, ixL1, ixL2, ixC, ixB, ixI0, ixI00, ixI1, ixI2, ixI3, upd2_rd, upd2_nd, Nat.reduceEqDiff, Nat.reduceAdd, Nat.add_left_cancel_iff, Nat.add_right_cancel_iff, reduceCtorEq, ↓reduceIte, and_self, and_true, true_and, and_false, false_and, true_or, or_true, false_or, or_false, not_true_eq_false, not_false_eq_true]); (try simp only [w32_em]); (first | done | omega))) (wp_gi (by omega) (by omega) (by omega) ?_)
    have oth : smlB (t s) = false → wp (j_X10_nextToken_119 w) (fun z => F38 m z ∧ z 38 4 = kdS t n s ∧ z 38 5 = (s : Int) ∧ z 38 6 = ((enS t n s : Nat) : Int) ∧ (kdS t n s = 2 → z 38 7 = nmC t (n - s) s 0)) := fun hsm => by
      have oth2 : digB (t s) = false → wp (j_X10_nextToken_159 w) (fun z => F38 m z ∧ z 38 4 = kdS t n s ∧ z 38 5 = (s : Int) ∧ z 38 6 = ((enS t n s : Nat) : Int) ∧ (kdS t n s = 2 → z 38 7 = nmC t (n - s) s 0)) := fun hdg => by
        have en : enS t n s = s + 1 := by unfold enS; rw [if_pos l, hsm, hdg]; simp
        have kk : kdS t n s = if t s = 59 then 3 else 4 := by unfold kdS; rw [if_pos l, hsm, hdg]; simp
        unfold j_X10_nextToken_159 j_X10_nextToken_179
        rw [e5, xs, et.1, en, kk]
        refine wp_gi (by omega) (by omega) (by omega) ?_
        have fin : ∀ y : Int, F38 m (upd2 (upd2 w 38 4 y) 38 6 (upd2 w 38 4 y 38 6 + 1)) ∧ upd2 (upd2 w 38 4 y) 38 6 (upd2 w 38 4 y 38 6 + 1) 38 4 = y ∧ upd2 (upd2 w 38 4 y) 38 6 (upd2 w 38 4 y 38 6 + 1) 38 5 = (s : Int) ∧ upd2 (upd2 w 38 4 y) 38 6 (upd2 w 38 4 y 38 6 + 1) 38 6 = ((s + 1 : Nat) : Int) := fun y => by
          refine ⟨fz.tr ((F38.up (by omega)).tr (F38.up (by omega))), ?_, ?_, ?_⟩
          · rw [upd2_row (by omega), upd2_same]
          · rw [upd2_row (by omega), upd2_row (by omega)]; exact e5
          · rw [upd2_same, upd2_row (by omega), e6]; omega
        by_cases c : t s = 59
        · rw [if_pos c]
          refine wp_ite_t (by ((try simp (disch := omega) only [w32_and, w32_or, w32_shl, w32_shr, w32_xor, ixO, ixO0, ixO1, ixO2, ixO3, ixL0, ixL1, ixL2, ixC, ixB, ixI0, ixI00, ixI1, ixI2, ixI3, upd2_rd, upd2_nd, Nat.reduceEqDiff, Nat.reduceAdd, Nat.add_left_cancel_iff, Nat.add_right_cancel_iff, reduceCtorEq, ↓reduceIte, and_self, and_true, true_and, and_false, false_and, true_or, or_true, false_or, or_false, not_true_eq_false, not_false_eq_true]); (try simp only [w32_em]); (first | done | omega))) (wp_bnd (wp_bnd (wp_some ?_)))
          have f3 := fin 3
          exact ⟨f3.1, f3.2.1, f3.2.2.1, f3.2.2.2, fun h => by omega⟩
        · rw [if_neg c]
          refine wp_ite_f (by ((try simp (disch := omega) only [w32_and, w32_or, w32_shl, w32_shr, w32_xor, ixO, ixO0, ixO1, ixO2, ixO3, ixL0, ixL1, ixL2, ixC, ixB, ixI0, ixI00, ixI1, ixI2, ixI3, upd2_rd, upd2_nd, Nat.reduceEqDiff, Nat.reduceAdd, Nat.add_left_cancel_iff, Nat.add_right_cancel_iff, reduceCtorEq, ↓reduceIte, and_self, and_true, true_and, and_false, false_and, true_or, or_true, false_or, or_false, not_true_eq_false, not_false_eq_true]); (try simp only [w32_em]); (first | done | omega))) (wp_bnd (wp_bnd (wp_some ?_)))
          have f3 := fin 4
          exact ⟨f3.1, f3.2.1, f3.2.2.1, f3.2.2.2, fun h => by omega⟩
      unfold j_X10_nextToken_119
      rw [e5, xs, et.1]
      refine wp_gi (by omega) (by omega) (by omega) ?_
      by_cases c1 : t s < 48
      · exact wp_ite_t (by ((try simp (disch := omega) only [w32_and, w32_or, w32_shl, w32_shr, w32_xor, ixO, ixO0, ixO1, ixO2, ixO3, ixL0, ixL1, ixL2, ixC, ixB, ixI0, ixI00, ixI1, ixI2, ixI3, upd2_rd, upd2_nd, Nat.reduceEqDiff, Nat.reduceAdd, Nat.add_left_cancel_iff, Nat.add_right_cancel_iff, reduceCtorEq, ↓reduceIte, and_self, and_true, true_and, and_false, false_and, true_or, or_true, false_or, or_false, not_true_eq_false, not_false_eq_true]); (try simp only [w32_em]); (first | done | omega))) (oth2 (dig_f.mpr (by omega)))
      · refine wp_ite_f (by ((try simp (disch := omega) only [w32_and, w32_or, w32_shl, w32_shr, w32_xor, ixO, ixO0, ixO1, ixO2, ixO3, ixL0, ixL1, ixL2, ixC, ixB, ixI0, ixI00, ixI1, ixI2, ixI3, upd2_rd, upd2_nd, Nat.reduceEqDiff, Nat.reduceAdd, Nat.add_left_cancel_iff, Nat.add_right_cancel_iff, reduceCtorEq, ↓reduceIte, and_self, and_true, true_and, and_false, false_and, true_or, or_true, false_or, or_false, not_true_eq_false, not_false_eq_true]); (try simp only [w32_em]); (first | done | omega))) (wp_gi (by omega) (by omega) (by omega) ?_)
        by_cases c2 : 57 < t s
        · exact wp_ite_t (by ((try simp (disch := omega) only [w32_and, w32_or, w32_shl, w32_shr, w32_xor, ixO, ixO0, ixO1, ixO2, ixO3, ixL0, ixL1, ixL2, ixC, ixB, ixI0, ixI00, ixI1, ixI2, ixI3, upd2_rd, upd2_nd, Nat.reduceEqDiff, Nat.reduceAdd, Nat.add_left_cancel_iff, Nat.add_right_cancel_iff, reduceCtorEq, ↓reduceIte, and_self, and_true, true_and, and_false, false_and, true_or, or_true, false_or, or_false, not_true_eq_false, not_false_eq_true]); (try simp only [w32_em]); (first | done | omega))) (oth2 (dig_f.mpr (by omega)))
        · have hdg : digB (t s) = true := dig_t.mpr (by omega)
          have en : enS t n s = rn digB t (n - s) s := by unfold enS; rw [if_pos l, hsm, hdg]; simp
          have kk : kdS t n s = 2 := by unfold kdS; rw [if_pos l, hsm, hdg]; simp
          rw [en, kk]
          refine wp_ite_f (by ((try simp (disch := omega) only [w32_and, w32_or, w32_shl, w32_shr, w32_xor, ixO, ixO0, ixO1, ixO2, ixO3, ixL0, ixL1, ixL2, ixC, ixB, ixI0, ixI00, ixI1, ixI2, ixI3, upd2_rd, upd2_nd, Nat.reduceEqDiff, Nat.reduceAdd, Nat.add_left_cancel_iff, Nat.add_right_cancel_iff, reduceCtorEq, ↓reduceIte, and_self, and_true, true_and, and_false, false_and, true_or, or_true, false_or, or_false, not_true_eq_false, not_false_eq_true]); (try simp only [w32_em]); (first | done | omega))) (wp_bnd (wp_cl1 (wp_use (X10num (t := t) (n := n) (p := s) (TXt_fr tx (F38.up (by omega))) (by omega) (by rw [upd2_row (by omega)]; exact e6)) (fun v hv => wp_some ?_))))
          refine ⟨fz.tr ((F38.up (by omega)).tr hv.1), ?_, ?_, hv.2.1, fun _ => hv.2.2.2.2⟩
          · rw [hv.2.2.1, upd2_same]
          · rw [hv.2.2.2.1, upd2_row (by omega)]; exact e5
    by_cases c1 : t s < 97
    · exact wp_ite_t (by ((try simp (disch := omega) only [w32_and, w32_or, w32_shl, w32_shr, w32_xor, ixO, ixO0, ixO1, ixO2, ixO3, ixL0, ixL1, ixL2, ixC, ixB, ixI0, ixI00, ixI1, ixI2, ixI3, upd2_rd, upd2_nd, Nat.reduceEqDiff, Nat.reduceAdd, Nat.add_left_cancel_iff, Nat.add_right_cancel_iff, reduceCtorEq, ↓reduceIte, and_self, and_true, true_and, and_false, false_and, true_or, or_true, false_or, or_false, not_true_eq_false, not_false_eq_true]); (try simp only [w32_em]); (first | done | omega))) (oth (sml_f.mpr (by omega)))
    · refine wp_ite_f (by ((try simp (disch := omega) only [w32_and, w32_or, w32_shl, w32_shr, w32_xor, ixO, ixO0, ixO1, ixO2, ixO3, ixL0, ixL1, ixL2, ixC, ixB, ixI0, ixI00, ixI1, ixI2, ixI3, upd2_rd, upd2_nd, Nat.reduceEqDiff, Nat.reduceAdd, Nat.add_left_cancel_iff, Nat.add_right_cancel_iff, reduceCtorEq, ↓reduceIte, and_self, and_true, true_and, and_false, false_and, true_or, or_true, false_or, or_false, not_true_eq_false, not_false_eq_true]); (try simp only [w32_em]); (first | done | omega))) (wp_gi (by omega) (by omega) (by omega) ?_)
      by_cases c2 : 122 < t s
      · exact wp_ite_t (by ((try simp (disch := omega) only [w32_and, w32_or, w32_shl, w32_shr, w32_xor, ixO, ixO0, ixO1, ixO2, ixO3, ixL0, ixL1, ixL2, ixC, ixB, ixI0, ixI00, ixI1, ixI2, ixI3, upd2_rd, upd2_nd, Nat.reduceEqDiff, Nat.reduceAdd, Nat.add_left_cancel_iff, Nat.add_right_cancel_iff, reduceCtorEq, ↓reduceIte, and_self, and_true, true_and, and_false, false_and, true_or, or_true, false_or, or_false, not_true_eq_false, not_false_eq_true]); (try simp only [w32_em]); (first | done | omega))) (oth (sml_f.mpr (by omega)))
      · have hsm : smlB (t s) = true := sml_t.mpr (by omega)
        have en : enS t n s = rn smlB t (n - s) s := by unfold enS; rw [if_pos l, hsm]; simp
        have kk : kdS t n s = 1 := by unfold kdS; rw [if_pos l, hsm]; simp
        rw [en, kk]
        refine wp_ite_f (by ((try simp (disch := omega) only [w32_and, w32_or, w32_shl, w32_shr, w32_xor, ixO, ixO0, ixO1, ixO2, ixO3, ixL0, ixL1, ixL2, ixC, ixB, ixI0, ixI00, ixI1, ixI2, ixI3, upd2_rd, upd2_nd, Nat.reduceEqDiff, Nat.reduceAdd, Nat.add_left_cancel_iff, Nat.add_right_cancel_iff, reduceCtorEq, ↓reduceIte, and_self, and_true, true_and, and_false, false_and, true_or, or_true, false_or, or_false, not_true_eq_false, not_false_eq_true]); (try simp only [w32_em]); (first | done | omega))) (wp_bnd (wp_cl1 (wp_use (X10word (t := t) (n := n) (p := s) (TXt_fr tx (F38.up (by omega))) (by omega) (by rw [upd2_row (by omega)]; exact e6)) (fun v hv => wp_some ?_))))
        refine ⟨fz.tr ((F38.up (by omega)).tr hv.1), ?_, ?_, hv.2.1, fun h => by omega⟩
        · rw [hv.2.2.1, upd2_same]
        · rw [hv.2.2.2.1, upd2_row (by omega)]; exact e5
  · have en : enS t n s = s := by unfold enS; rw [if_neg l]
    have kk : kdS t n s = 0 := by unfold kdS; rw [if_neg l]
    rw [en, kk]
    refine wp_ite_f (by ((try simp (disch := omega) only [w32_and, w32_or, w32_shl, w32_shr, w32_xor, ixO, ixO0, ixO1, ixO2, ixO3, ixL0, ixL1, ixL2, ixC, ixB, ixI0, ixI00, ixI1, ixI2, ixI3, upd2_rd, upd2_nd, Nat.reduceEqDiff, Nat.reduceAdd, Nat.add_left_cancel_iff, Nat.add_right_cancel_iff, reduceCtorEq, ↓reduceIte, and_self, and_true, true_and, and_false, false_and, true_or, or_true, false_or, or_false, not_true_eq_false, not_false_eq_true]); (try simp only [w32_em]); (first | done | omega))) (wp_bnd (wp_some ⟨fz.tr (F38.up (by omega)), upd2_same, ?_, ?_, fun h => by omega⟩))
    · rw [upd2_row (by omega)]; exact e5
    · rw [upd2_row (by omega)]; exact e6
