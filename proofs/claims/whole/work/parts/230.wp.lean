-- ===== what a pure function answers, by its parts =====
def wp {α : Type} (o : Option α) (Q : α → Prop) : Prop := ∃ a, o = some a ∧ Q a
theorem wp_some {α : Type} {a : α} {Q : α → Prop} (h : Q a) : wp (some a) Q := ⟨a, rfl, h⟩
theorem wp_use {α : Type} {o : Option α} {P Q : α → Prop} (h : wp o P) (h2 : ∀ a, P a → Q a) : wp o Q := by
  obtain ⟨a, e, p⟩ := h
  exact ⟨a, e, h2 a p⟩
theorem wp_eq {α : Type} {o : Option α} {a : α} {Q : α → Prop} (h : o = some a) (h2 : Q a) : wp o Q := ⟨a, h, h2⟩
theorem wp_cl1 {α β : Type} {o : Option α} {K : α → Option β} {Q : β → Prop} (h : wp o (fun a => wp (K a) Q)) : wp (cl1 o K) Q := by
  obtain ⟨a, rfl, h⟩ := h
  exact h
theorem wp_cl2 {α β γ : Type} {o : Option (α × β)} {K : α → β → Option γ} {Q : γ → Prop} (h : wp o (fun a => wp (K a.1 a.2) Q)) : wp (cl2 o K) Q := by
  obtain ⟨a, rfl, h⟩ := h
  exact h
theorem wp_cx1 {α β : Type} {o : Option (Nat ⊕ α)} {T : Nat → Option β} {K : α → Option β} {Q : β → Prop} (h : wp o (fun a => wp (Sum.elim T K a) Q)) : wp (cx1 o T K) Q := by
  obtain ⟨a, rfl, h⟩ := h
  cases a <;> exact h
theorem wp_cx2 {α β : Type} {o : Option ((Nat ⊕ α) × Mem)} {T : Nat → Mem → Option β} {K : α → Mem → Option β} {Q : β → Prop} (h : wp o (fun a => wp (Sum.elim T K a.1 a.2) Q)) : wp (cx2 o T K) Q := by
  obtain ⟨⟨a, m⟩, rfl, h⟩ := h
  cases a <;> exact h
theorem wp_bnd {α β : Type} {a : α} {K : α → Option β} {Q : β → Prop} (h : wp (K a) Q) : wp (bnd a K) Q := h
theorem wp_ite {α : Type} {c : Prop} [Decidable c] {A B : Option α} {Q : α → Prop} (h1 : c → wp A Q) (h2 : ¬ c → wp B Q) : wp (if c then A else B) Q := by
  by_cases h : c
  · rw [if_pos h]; exact h1 h
  · rw [if_neg h]; exact h2 h
def imp (c P : Prop) : Prop := c → P
theorem wp_imp {c P : Prop} (h : c → P) : imp c P := h
theorem wp_itei {α : Type} {c : Prop} [Decidable c] {A B : Option α} {Q : α → Prop} (h1 : imp c (wp A Q)) (h2 : imp (¬ c) (wp B Q)) : wp (if c then A else B) Q := wp_ite h1 h2
theorem wp_ite_t {α : Type} {c : Prop} [Decidable c] {A B : Option α} {Q : α → Prop} (h : c) (h1 : wp A Q) : wp (if c then A else B) Q := by
  rw [if_pos h]; exact h1
theorem wp_ite_f {α : Type} {c : Prop} [Decidable c] {A B : Option α} {Q : α → Prop} (h : ¬ c) (h1 : wp B Q) : wp (if c then A else B) Q := by
  rw [if_neg h]; exact h1
theorem wp_gi {α : Type} {x : Int} {N : Nat} {K : Option α} {Q : α → Prop} (h0 : 0 ≤ x) (h1 : x < (N : Int)) (hN : N ≤ 2147483648) (h : wp K Q) : wp (gi x N K) Q := by
  rw [gi_ok (inb_of h0 h1 hN)]
  exact h
theorem wp_gz {α : Type} {x : Int} {K : Option α} {Q : α → Prop} (h0 : x = 0 ∨ x = 1) (h : wp K Q) : wp (gz x K) Q := by
  unfold gz
  rw [if_pos (by rcases h0 with rfl | rfl <;> simp [w32])]
  exact h
theorem wp_gn {α : Type} {x : Int} {K : Option α} {Q : α → Prop} (h0 : w32 x ≠ 0) (h : wp K Q) : wp (gn x K) Q := by
  unfold gn
  rw [if_neg h0]
  exact h
theorem wp_lpb {ε ρ β : Type} {o : Option (ε ⊕ ρ)} {K : ε → Option β} {KR : ρ → Option β} {Q : β → Prop} (h : wp o (fun a => wp (Sum.elim K KR a) Q)) : wp (lpb o K KR) Q := by
  obtain ⟨a, rfl, h⟩ := h
  cases a <;> exact h
/-- a loop with an invariant and a measure -/
theorem wp_wh {σ ρ : Type} {step : σ → Option (σ ⊕ ρ)} (I : σ → Prop) {R : ρ → Prop} (m : σ → Nat) (h : ∀ x, I x → wp (step x) (Sum.elim (fun y => I y ∧ m y < m x) R)) {x : σ} (hx : I x) : wp (wh step x) R := by
  refine wh_rule (I := I) (R := R) m (fun x hx => ?_) x hx
  obtain ⟨a, e, ha⟩ := h x hx
  cases a with
  | inl y => exact Or.inl ⟨y, e, ha.1, ha.2⟩
  | inr r => exact Or.inr ⟨r, e, ha⟩
/-- a counting loop over pairs: place n, state x; I at the start of round n -/
theorem wp_for {σ ρ : Type} {step : Int × σ → Option ((Int × σ) ⊕ ρ)} (I : Nat → σ → Prop) {R : ρ → Prop} (n0 n : Nat) (h0 : n0 ≤ n) (h : ∀ i x, n0 ≤ i → i < n → I i x → wp (step ((i : Int), x)) (Sum.elim (fun y => y.1 = ((i + 1 : Nat) : Int) ∧ I (i + 1) y.2) R)) (he : ∀ x, I n x → wp (step ((n : Int), x)) (Sum.elim (fun _ => False) R)) {x : σ} (hx : I n0 x) : wp (wh step ((n0 : Int), x)) R := by
  refine wp_wh (fun y => ∃ i : Nat, n0 ≤ i ∧ i ≤ n ∧ y.1 = (i : Int) ∧ I i y.2) (fun y => n - y.1.toNat) ?_ ⟨n0, Nat.le_refl _, h0, rfl, hx⟩
  rintro ⟨y, s⟩ ⟨i, h1, h2, h3, h4⟩
  simp only at h3 h4
  subst h3
  by_cases e : i = n
  · subst e
    refine wp_use (he s h4) (fun a ha => ?_)
    cases a with
    | inl y => exact ha.elim
    | inr r => exact ha
  · refine wp_use (h i s h1 (by omega) h4) (fun a ha => ?_)
    cases a with
    | inl y =>
      obtain ⟨a1, a2⟩ := ha
      refine ⟨⟨i + 1, by omega, by omega, a1, a2⟩, ?_⟩
      show n - y.1.toNat < n - (i : Int).toNat
      rw [a1]
      omega
    | inr r => exact ha
theorem upd2_rd (M : Mem) (a i : Nat) (v : Int) (b j : Nat) : upd2 M a i v b j = if b = a then (if j = i then v else M b j) else M b j := by
  unfold upd2
  by_cases h : b = a
  · rw [if_pos h, if_pos h]
  · rw [if_neg h, if_neg h]
theorem w32_em (v : Int) : w32 v = (v + 2147483648) % 4294967296 - 2147483648 := by
  unfold w32
  rw [Int32.toInt_ofInt]
  show Int.bmod v 4294967296 = _
  rw [Int.bmod_def]
  omega
theorem w32_tI (x : Int32) : w32 x.toInt = x.toInt := by
  unfold w32
  rw [Int32.ofInt_toInt]
theorem w32_and (a b : Int) : w32 (i_and a b) = i_and a b := w32_tI _
theorem w32_or (a b : Int) : w32 (i_or a b) = i_or a b := w32_tI _
theorem w32_xor (a b : Int) : w32 (i_xor a b) = i_xor a b := w32_tI _
theorem w32_shl (a b : Int) : w32 (i_shl a b) = i_shl a b := w32_tI _
theorem w32_shr (a b : Int) : w32 (i_shr a b) = i_shr a b := w32_tI _
theorem lcmp0 {a b : Int} (h : a = b) : w32 (l_cmp a b) = 0 := by rw [h]; exact lcmp_eq
theorem key_ne {a : Nat} (h : keyb a = true) : a ≠ 139 ∧ a ≠ 157 ∧ a ≠ 138 ∧ (a ≤ 39 ∨ 140 ≤ a) ∧ a ≠ 0 ∧ a ≠ 1 ∧ a ≠ 38 := by
  unfold keyb at h
  simp only [Bool.or_eq_true, Bool.and_eq_true, beq_iff_eq] at h
  rcases h with ((((((((h | h) | h) | h) | h) | h) | h) | h) | h)
  · have := Nat.le_of_ble_eq_true h.1; have := Nat.le_of_ble_eq_true h.2; omega
  · omega
  · omega
  · omega
  · omega
  · omega
  · omega
  · omega
  · have := Nat.le_of_ble_eq_true h; omega
theorem HR_low {h : Nat} {M M' : Mem} {N N' : Nat → Int} (eM : ∀ d, 4 ≤ d → d < 18 → M' (h + d) = M (h + d)) (eN : ∀ k, k = 3 ∨ k = 4 ∨ k = 5 ∨ 13 ≤ k → N' k = N k) (hR : HR h M N)
    (A : M' (h + 1) 0 = N' 0 ∧ M' (h + 1) 1 = N' 1 ∧ M' (h + 1) 2 = N' 2 ∧ M' (h + 1) 3 = zns N' ∧ M' (h + 1) 5 = N' 6 ∧ M' (h + 1) 6 = N' 11 ∧ M' (h + 1) 7 = N' 12)
    (B : M' (h + 2) 0 = 0 ∧ M' (h + 2) 1 = N' 7 ∧ M' (h + 2) 2 = N' 8 ∧ M' (h + 3) 0 = N' 9 ∧ M' (h + 3) 1 = N' 10) : HR h M' N' := by
  obtain ⟨-, -, C, D, E⟩ := hR
  refine ⟨A, B, ?_, ?_, ?_⟩
  · rw [eM 4 (by decide) (by decide), eM 5 (by decide) (by decide), eM 6 (by decide) (by decide), eM 7 (by decide) (by decide), eM 8 (by decide) (by decide), eN 3 (by omega)]
    refine ⟨C.1, fun i hi => ?_⟩
    rw [eN _ (by omega), eN _ (by omega), eN _ (by omega), eN _ (by omega)]
    exact C.2 i hi
  · rw [eM 9 (by decide) (by decide), eM 10 (by decide) (by decide), eM 11 (by decide) (by decide), eM 12 (by decide) (by decide), eM 13 (by decide) (by decide), eM 14 (by decide) (by decide), eM 15 (by decide) (by decide), eN 4 (by omega)]
    refine ⟨D.1, D.2.1, D.2.2.1, fun o ho => ?_⟩
    rw [eN _ (by omega), eN _ (by omega), eN _ (by omega), eN _ (by omega)]
    refine ⟨(D.2.2.2 o ho).1, (D.2.2.2 o ho).2.1, (D.2.2.2 o ho).2.2.1, (D.2.2.2 o ho).2.2.2.1, fun k hk => ?_⟩
    rw [eN _ (by omega), eN _ (by omega), eN _ (by omega)]
    exact (D.2.2.2 o ho).2.2.2.2 k hk
  · rw [eM 16 (by decide) (by decide), eM 17 (by decide) (by decide), eN 5 (by omega)]
    refine ⟨E.1, fun b hb => ?_⟩
    rw [eN _ (by omega)]
    exact E.2 b hb
theorem WF_low {N N' : Nat → Int} (eN : ∀ k, k = 3 ∨ k = 4 ∨ k = 5 ∨ 13 ≤ k → N' k = N k) (e01 : (N' 0 = N 0 ∧ N' 1 = N 1) ∨ N 3 ≤ 0) (hW : WF N)
    (A : 1 ≤ N' 0 ∧ N' 0 ≤ 6 ∧ 2 ≤ N' 1 ∧ N' 1 ≤ 20 ∧ 1 ≤ N' 2 ∧ N' 2 ≤ 9)
    (B : 0 ≤ N' 6 ∧ N' 6 ≤ 3 ∧ 0 ≤ N' 9 ∧ N' 9 ≤ 4 ∧ 0 ≤ N' 10 ∧ N' 10 ≤ 4 ∧ 0 ≤ N' 11 ∧ N' 11 ≤ 99 ∧ 0 ≤ N' 12 ∧ N' 12 ≤ 99)
    (C : (N' 7 = -1 ∧ N' 8 = -1) ∨ (1 ≤ N' 7 ∧ N' 7 < N' 0 ∧ (N' 8 = -1 ∨ N' 7 < N' 8 ∧ N' 8 < N' 0))) : WF N' := by
  obtain ⟨a, b, c, d, e, f, g⟩ := hW
  have e3 := eN 3 (by omega)
  have e4 := eN 4 (by omega)
  have e5 := eN 5 (by omega)
  refine ⟨by omega, B, C, fun j hj => ?_, fun o ho => ?_, fun q hq => ?_, BC_congr e4 e5 (fun o _ => eN _ (by omega)) (fun b _ => eN _ (by omega)) g⟩
  · rw [e3] at hj
    have := d j hj
    unfold WFi at this ⊢
    rw [eN (13 + 4 * j) (by omega), eN (14 + 4 * j) (by omega), eN (15 + 4 * j) (by omega), eN (16 + 4 * j) (by omega)]
    omega
  · rw [e4] at ho
    have := e o ho
    unfold WFo at this ⊢
    rw [e3, eN _ (by omega), eN _ (by omega), eN _ (by omega)]
    obtain ⟨t1, t2, t3, t4, t5, t6, t7⟩ := this
    refine ⟨t1, t2, t3, t4, t5, t6, fun k hk => ?_⟩
    rw [eN _ (by omega), eN _ (by omega), eN _ (by omega)]
    exact t7 k hk
  · rw [e5] at hq
    have := f q hq
    unfold WFb at this ⊢
    rw [e4, e5, eN _ (by omega)]
    obtain ⟨t1, t2, t3, t4⟩ := this
    refine ⟨t1, t2, fun o ho => ?_, fun b' hb' hne o ho => ?_⟩
    · rw [eN _ (by omega)]
      exact t3 o ho
    · rw [eN _ (by omega)]
      exact t4 b' hb' hne o ho
theorem lf1 {M : Mem} {v : Int} (hI : Inv M) : Inv (upd2 M 139 0 v) ∧ upd2 M 139 0 v 37 = M 37 := ⟨Inv_Sm (Sm.up rfl) hI, rfl⟩
theorem lf2 {M : Mem} {v w : Int} (hI : Inv M) : Inv (upd2 (upd2 M 157 0 w) 139 0 v) ∧ upd2 (upd2 M 157 0 w) 139 0 v 37 = M 37 := ⟨Inv_Sm ((Sm.up rfl).tr (Sm.up rfl)) hI, rfl⟩
/-- a call that changes the state: what is to be shown of the last memory -/
theorem lf3 {M M' : Mem} (hI : Inv M) (e : ∀ a, 18 < a → a ≠ 38 → a ≠ 139 → a ≠ 140 → a ≠ 157 → M' a = M a) (e38 : ∀ k, 1 ≤ k → k < 4 → M' 38 k = M 38 k) (e39 : ∀ k, k ≠ 0 → M' 139 k = M 139 k) (hH : HR 1 M' (M' 140)) (hW : WF (M' 140)) : Inv M' ∧ M' 37 = M 37 :=
  ⟨Inv_new hI hH hW (fun a ka k2 k3 => e a k2 (key_ne ka).2.2.2.2.2.2 (key_ne ka).1 k3 (key_ne ka).2.1) e38 (e39 23 (by decide)) (e39 28 (by decide)) (e39 29 (by decide)), e 37 (by decide) (by decide) (by decide) (by decide) (by decide)⟩
theorem zn3 {N : Nat → Int} {z : Int} (h : z = zns N) : z = 1 ∧ N 7 = -1 ∨ z = 2 ∧ N 7 ≠ -1 ∧ N 8 = -1 ∨ z = 3 ∧ N 7 ≠ -1 ∧ N 8 ≠ -1 := by
  unfold zns at h
  split at h
  · omega
  · split at h <;> omega
theorem upd2_nd (M : Mem) (a i : Nat) (v : Int) (b : Nat) : (upd2 M a i v b) = if b = a then (fun j => if j = i then v else M b j) else M b := rfl
