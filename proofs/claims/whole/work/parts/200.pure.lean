-- ===== pure: numbers, loops =====
theorem ix_of {v : Int} (h0 : 0 ≤ v) (h1 : v < 2147483648) : ix v = v.toNat := by
  rw [ix_eq, w32_ok ⟨by omega, h1⟩]
theorem ix_nat {n : Nat} (h : n < 2147483648) : ix (n : Int) = n := by
  rw [ix_of (by omega) (by omega)]
  omega
theorem w32_nat {n : Nat} (h : n < 2147483648) : w32 (n : Int) = (n : Int) := w32_ok ⟨by omega, by omega⟩
theorem inb_of {v : Int} {N : Nat} (h0 : 0 ≤ v) (h1 : v < (N : Int)) (hN : N ≤ 2147483648) : inb v N := by
  unfold inb
  rw [w32_ok ⟨by omega, by omega⟩]
  exact ⟨h0, h1⟩
theorem inb_nat {n N : Nat} (h : n < N) (hN : N ≤ 2147483648) : inb (n : Int) N := inb_of (by omega) (by omega) hN
/-- a loop with an invariant and a measure -/
theorem wh_rule {σ ρ : Type} {step : σ → Option (σ ⊕ ρ)} {I : σ → Prop} {R : ρ → Prop} (m : σ → Nat) (h : ∀ x, I x → (∃ y, step x = some (.inl y) ∧ I y ∧ m y < m x) ∨ ∃ r, step x = some (.inr r) ∧ R r) : ∀ x, I x → ∃ r, wh step x = some r ∧ R r := by
  have key : ∀ (n : Nat) (x : σ), m x < n → I x → ∃ r, wh step x = some r ∧ R r := by
    intro n
    induction n with
    | zero => intro x hx; omega
    | succ n ih =>
      intro x hx hI
      rcases h x hI with ⟨y, e, hy, hm⟩ | ⟨r, e, hr⟩
      · rw [wh_step e]
        exact ih y (by omega) hy
      · exact ⟨r, wh_stop e, hr⟩
  exact fun x hI => key (m x + 1) x (by omega) hI
/-- f for 0, 1, .. , n - 1 -/
def itn {σ : Type} (f : Nat → σ → σ) : Nat → σ → σ
  | 0, x => x
  | n + 1, x => f n (itn f n x)
/-- a counting loop: at i the state is what the first i rounds made -/
theorem wh_for {σ ρ τ : Type} {step : σ → Option (σ ⊕ ρ)} (n : Nat) (g : Nat → τ → σ) (f : Nat → τ → τ) (x : τ) {r : ρ} (h : ∀ i, i < n → step (g i (itn f i x)) = some (.inl (g (i + 1) (f i (itn f i x))))) (he : step (g n (itn f n x)) = some (.inr r)) : wh step (g 0 x) = some r := by
  have key : ∀ d i, i + d = n → wh step (g i (itn f i x)) = some r := by
    intro d
    induction d with
    | zero => intro i hi; rw [show i = n by omega]; exact wh_stop he
    | succ d ih => intro i hi; rw [wh_step (h i (by omega))]; exact ih (i + 1) (by omega)
  exact key n 0 (by omega)
theorem itn_congr {σ : Type} {f g : Nat → σ → σ} {n : Nat} {x : σ} (h : ∀ i, i < n → ∀ y, f i y = g i y) : itn f n x = itn g n x := by
  induction n with
  | zero => rfl
  | succ n ih =>
    show f n (itn f n x) = g n (itn g n x)
    rw [ih (fun i hi y => h i (by omega) y), h n (by omega)]
theorem itn_inv {σ : Type} {f : Nat → σ → σ} {P : Nat → σ → Prop} {x : σ} (n : Nat) (h0 : P 0 x) (h : ∀ i, i < n → ∀ y, P i y → P (i + 1) (f i y)) : P n (itn f n x) := by
  induction n with
  | zero => exact h0
  | succ n ih => exact h n (by omega) _ (ih (fun i hi y => h i (by omega) y))
theorem bnd_eq {α β : Type} (a : α) (k : α → Option β) : bnd a k = k a := rfl
theorem gi_ok {α : Type} {x : Int} {N : Nat} {k : Option α} (h : inb x N) : gi x N k = k := if_pos h
theorem upd2_same {M : Mem} {a i : Nat} {v : Int} : upd2 M a i v a i = v := by rw [upd2_at]; rw [if_pos rfl]
theorem upd2_row {M : Mem} {a i j : Nat} {v : Int} (h : j ≠ i) : upd2 M a i v a j = M a j := by rw [upd2_at]; rw [if_neg h]
