-- ===== words for the pure functions of methods that throw =====
def ovi (o : Nat ⊕ Int) : Nat ⊕ Option Value := match o with
  | .inl e => .inl e
  | .inr r => .inr (some (vi r))
def ovu (o : Nat ⊕ Unit) : Nat ⊕ Option Value := match o with
  | .inl e => .inl e
  | .inr _ => .inr none
theorem cx1_of {α β : Type} {o : Option (Nat ⊕ α)} {T : Nat → Option β} {K : α → Option β} {r : β} (h : cx1 o T K = some r) : (∃ e, o = some (.inl e) ∧ T e = some r) ∨ (∃ a, o = some (.inr a) ∧ K a = some r) := by
  cases o with
  | none => cases h
  | some z => cases z with
    | inl e => exact Or.inl ⟨e, rfl, h⟩
    | inr a => exact Or.inr ⟨a, rfl, h⟩
theorem cx2_of {α β : Type} {o : Option ((Nat ⊕ α) × Mem)} {T : Nat → Mem → Option β} {K : α → Mem → Option β} {r : β} (h : cx2 o T K = some r) : (∃ e M, o = some (.inl e, M) ∧ T e M = some r) ∨ (∃ a M, o = some (.inr a, M) ∧ K a M = some r) := by
  cases o with
  | none => cases h
  | some z => obtain ⟨z, M⟩ := z; cases z with
    | inl e => exact Or.inl ⟨e, M, rfl, h⟩
    | inr a => exact Or.inr ⟨a, M, rfl, h⟩
theorem kf {X : Cxt} {mc ms a b : Nat} (hN : NX X mc ms) (h1 : a ≤ mc) (h2 : b ≤ ms) : a ≤ (xR X).cells ∧ b ≤ (xR X).slots := ⟨by rw [hN.2.1]; exact h1, by rw [hN.2.2]; exact h2⟩
theorem x_wid {X : Cxt} {k n k2 n2 : Nat} {Q : State → Prop} {pc : Nat} {ls : List (Option Value)} {st : List Value} {M : Mem} (h1 : k ≤ k2) (h2 : n ≤ n2) (kk : V X k2 n2 Q pc ls st M) : V X k n Q pc ls st M :=
  fun H locs la hl hP hD hS => W.widen h1 h2 (kk H locs la hl hP hD hS)
theorem x_rs2 {X : Cxt} {k n mc ms : Nat} {pc : Nat} {ls : List (Option Value)} {st : List Value} {M : Mem} {α : Type} {f : α → Nat ⊕ Option Value} {a r : α} {b Mr : Mem} (h : some (a, b) = some (r, Mr)) (kk : V X k n (Qx X mc ms (f a) b) pc ls st M) : V X k n (Qx X mc ms (f r) Mr) pc ls st M := by
  cases h
  exact kk
theorem x_rs1 {X : Cxt} {k n mc ms : Nat} {pc : Nat} {ls : List (Option Value)} {st : List Value} {M Mr : Mem} {α : Type} {f : α → Nat ⊕ Option Value} {a r : α} (h : some a = some r) (kk : V X k n (Qx X mc ms (f a) Mr) pc ls st M) : V X k n (Qx X mc ms (f r) Mr) pc ls st M := by
  cases h
  exact kk
