-- ===== the invariant of the memory =====
/-- the number of zones -/
def zns (N : Nat → Int) : Int := if N 7 = -1 then 1 else if N 8 = -1 then 2 else 3
/-- bit i of a mask -/
def bit (m : Int) (i : Nat) : Bool := m.toNat.testBit i
/-- the hall at h is the reference's row N -/
def HR (h : Nat) (M : Mem) (N : Nat → Int) : Prop :=
  (M (h + 1) 0 = N 0 ∧ M (h + 1) 1 = N 1 ∧ M (h + 1) 2 = N 2 ∧ M (h + 1) 3 = zns N ∧ M (h + 1) 5 = N 6 ∧ M (h + 1) 6 = N 11 ∧ M (h + 1) 7 = N 12) ∧
  (M (h + 2) 0 = 0 ∧ M (h + 2) 1 = N 7 ∧ M (h + 2) 2 = N 8 ∧ M (h + 3) 0 = N 9 ∧ M (h + 3) 1 = N 10) ∧
  (M (h + 4) 0 = N 3 ∧ ∀ i : Nat, (i : Int) < N 3 → M (h + 5) i = N (13 + 4 * i) ∧ M (h + 6) i = N (14 + 4 * i) ∧ M (h + 7) i = N (15 + 4 * i) ∧ M (h + 8) i = N (16 + 4 * i)) ∧
  (M (h + 9) 0 = N 4 ∧ 0 ≤ M (h + 9) 1 ∧ (M (h + 9) 1 < 65536 ∧ ∀ o : Nat, N 4 ≤ (o : Int) → bit (M (h + 9) 1) o = false) ∧ ∀ o : Nat, (o : Int) < N 4 → M (h + 10) o = N (109 + 22 * o) ∧ M (h + 11) o = N (110 + 22 * o) ∧ M (h + 12) o = N (111 + 22 * o) ∧ N (112 + 22 * o) = (if bit (M (h + 9) 1) o then 1 else 0) ∧
    ∀ k : Nat, (k : Int) < N (111 + 22 * o) → M (h + 13) (6 * o + k) = N (113 + 22 * o + 3 * k) ∧ M (h + 14) (6 * o + k) = N (114 + 22 * o + 3 * k) ∧ M (h + 15) (6 * o + k) = N (115 + 22 * o + 3 * k)) ∧
  (M (h + 16) 0 = N 5 ∧ ∀ b : Nat, (b : Int) < N 5 → M (h + 17) b = N (461 + b))
/-- an item's numbers -/
def WFi (N : Nat → Int) (i : Nat) : Prop := 0 ≤ N (13 + 4 * i) ∧ N (13 + 4 * i) < N 0 ∧ 1 ≤ N (14 + 4 * i) ∧ N (14 + 4 * i) ≤ N 1 ∧ 1 ≤ N (15 + 4 * i) ∧ N (15 + 4 * i) ≤ 50 ∧ 0 ≤ N (16 + 4 * i) ∧ N (16 + 4 * i) ≤ 999
/-- an order's numbers -/
def WFo (N : Nat → Int) (o : Nat) : Prop := 0 ≤ N (109 + 22 * o) ∧ N (109 + 22 * o) ≤ 9999 ∧ 0 ≤ N (110 + 22 * o) ∧ N (110 + 22 * o) ≤ 3 ∧ 0 ≤ N (111 + 22 * o) ∧ N (111 + 22 * o) ≤ 6 ∧
  ∀ k : Nat, (k : Int) < N (111 + 22 * o) → 0 ≤ N (113 + 22 * o + 3 * k) ∧ N (113 + 22 * o + 3 * k) < N 3 ∧ 1 ≤ N (114 + 22 * o + 3 * k) ∧ N (114 + 22 * o + 3 * k) ≤ 99 ∧ 0 ≤ N (115 + 22 * o + 3 * k) ∧ N (115 + 22 * o + 3 * k) ≤ N (114 + 22 * o + 3 * k)
/-- a batch's members: orders that are there, in state 1, in one batch alone -/
def WFb (N : Nat → Int) (b : Nat) : Prop := 1 ≤ N (461 + b) ∧ N (461 + b) < 65536 ∧ (∀ o : Nat, bit (N (461 + b)) o = true → (o : Int) < N 4 ∧ N (110 + 22 * o) = 1) ∧ ∀ b' : Nat, (b' : Int) < N 5 → b' ≠ b → ∀ o : Nat, bit (N (461 + b)) o = true → bit (N (461 + b')) o = false
/-- an order in state 1 is in a batch -/
def BC (N : Nat → Int) : Prop := ∀ o : Nat, (o : Int) < N 4 → N (110 + 22 * o) = 1 → ∃ b : Nat, (b : Int) < N 5 ∧ bit (N (461 + b)) o = true
theorem BC_congr {N N' : Nat → Int} (e4 : N' 4 = N 4) (e5 : N' 5 = N 5) (es : ∀ o : Nat, (o : Int) < N 4 → N' (110 + 22 * o) = N (110 + 22 * o)) (eb : ∀ b : Nat, (b : Int) < N 5 → N' (461 + b) = N (461 + b)) (h : BC N) : BC N' := by
  intro o ho hs
  rw [e4] at ho
  rw [es o ho] at hs
  obtain ⟨b, hb, q⟩ := h o ho hs
  exact ⟨b, by rw [e5]; exact hb, by rw [eb b hb]; exact q⟩
/-- the numbers of a row are in their ranges (append at the end what the cases need) -/
def WF (N : Nat → Int) : Prop :=
  (1 ≤ N 0 ∧ N 0 ≤ 6 ∧ 2 ≤ N 1 ∧ N 1 ≤ 20 ∧ 1 ≤ N 2 ∧ N 2 ≤ 9 ∧ 0 ≤ N 3 ∧ N 3 ≤ 24 ∧ 0 ≤ N 4 ∧ N 4 ≤ 16 ∧ 0 ≤ N 5 ∧ N 5 ≤ 8) ∧
  (0 ≤ N 6 ∧ N 6 ≤ 3 ∧ 0 ≤ N 9 ∧ N 9 ≤ 4 ∧ 0 ≤ N 10 ∧ N 10 ≤ 4 ∧ 0 ≤ N 11 ∧ N 11 ≤ 99 ∧ 0 ≤ N 12 ∧ N 12 ≤ 99) ∧ ((N 7 = -1 ∧ N 8 = -1) ∨ (1 ≤ N 7 ∧ N 7 < N 0 ∧ (N 8 = -1 ∨ N 7 < N 8 ∧ N 8 < N 0))) ∧
  (∀ i : Nat, (i : Int) < N 3 → WFi N i) ∧ (∀ o : Nat, (o : Int) < N 4 → WFo N o) ∧ (∀ b : Nat, (b : Int) < N 5 → WFb N b) ∧ BC N
/-- the text and what its reading told -/
def TX (M : Mem) : Prop := 0 ≤ M 38 1 ∧ M 38 1 ≤ 600 ∧ M 139 23 = M 38 1 ∧ (∀ i : Nat, (i : Int) < M 38 1 → M 39 i = M 155 i ∧ -128 ≤ M 39 i ∧ M 39 i < 128) ∧ M 139 28 = M 38 2 ∧ M 139 29 = M 38 3 ∧ M 156 = mW 156
/-- what is saved -/
def SV (M : Mem) : Prop := ∀ j : Nat, j < 2 → (M 37 j = 0 ∧ M 143 j = 0) ∨ (M 37 j = 1 ∧ M 143 j = 1 ∧ HR (160 + 18 * j) M (fun i => M 142 (469 * j + i)) ∧ WF (fun i => M 142 (469 * j + i)))
def Inv (M : Mem) : Prop := HR 1 M (M 140) ∧ WF (M 140) ∧ TX M ∧ SV M
/-- the cells that the state lies in -/
def keyb (a : Nat) : Bool := (Nat.ble 2 a && Nat.ble a 18) || a == 37 || a == 39 || a == 140 || a == 142 || a == 143 || a == 155 || a == 156 || Nat.ble 160 a
/-- the same state -/
def Sm (M M' : Mem) : Prop := (∀ a, keyb a = true → M' a = M a) ∧ (∀ k, 1 ≤ k → k < 4 → M' 38 k = M 38 k) ∧ M' 139 23 = M 139 23 ∧ M' 139 28 = M 139 28 ∧ M' 139 29 = M 139 29
theorem Sm.rf {M : Mem} : Sm M M := ⟨fun _ _ => rfl, fun _ _ _ => rfl, rfl, rfl, rfl⟩
theorem Sm.tr {M M1 M2 : Mem} (h1 : Sm M M1) (h2 : Sm M1 M2) : Sm M M2 := ⟨fun a ha => (h2.1 a ha).trans (h1.1 a ha), fun k a b => (h2.2.1 k a b).trans (h1.2.1 k a b), h2.2.2.1.trans h1.2.2.1, h2.2.2.2.1.trans h1.2.2.2.1, h2.2.2.2.2.trans h1.2.2.2.2⟩
theorem upd2_ne2 {M : Mem} {a i b j : Nat} {v : Int} (h : ¬ (b = a ∧ j = i)) : upd2 M a i v b j = M b j := by
  unfold upd2
  by_cases e : b = a
  · rw [if_pos e]
    by_cases e2 : j = i
    · exact absurd ⟨e, e2⟩ h
    · simp only [if_neg e2]
  · rw [if_neg e]
/-- a store that touches nothing of the state -/
def offk (a i : Nat) : Bool := !(keyb a) && !(a == 38 && (Nat.ble 1 i && Nat.ble i 3)) && !(a == 139 && (i == 23 || i == 28 || i == 29))
theorem Sm.up {M : Mem} {a i : Nat} {v : Int} (h : offk a i = true) : Sm M (upd2 M a i v) := by
  unfold offk at h
  simp only [Bool.and_eq_true, Bool.not_eq_true', Bool.and_eq_false_iff, Bool.or_eq_false_iff, beq_eq_false_iff_ne, ne_eq] at h
  obtain ⟨⟨h1, h2⟩, h3⟩ := h
  refine ⟨fun b hb => upd2_ne (fun e => by rw [e, h1] at hb; cases hb), fun k k1 k2 => upd2_ne2 (fun e => ?_), upd2_ne2 (fun e => ?_), upd2_ne2 (fun e => ?_), upd2_ne2 (fun e => ?_)⟩
  · obtain ⟨e1, e2⟩ := e
    rcases h2 with h2 | h2
    · exact h2 e1.symm
    · rcases h2 with h2 | h2
      · have := Nat.ble_eq_true_of_le (show 1 ≤ i by omega); rw [h2] at this; cases this
      · have := Nat.ble_eq_true_of_le (show i ≤ 3 by omega); rw [h2] at this; cases this
  · obtain ⟨e1, e2⟩ := e
    rcases h3 with h3 | h3
    · exact h3 e1.symm
    · exact h3.1.1 e2.symm
  · obtain ⟨e1, e2⟩ := e
    rcases h3 with h3 | h3
    · exact h3 e1.symm
    · exact h3.1.2 e2.symm
  · obtain ⟨e1, e2⟩ := e
    rcases h3 with h3 | h3
    · exact h3 e1.symm
    · exact h3.2 e2.symm
theorem HR_congr {h : Nat} {M M' : Mem} {N : Nat → Int} (e : ∀ d, 1 ≤ d → d < 18 → M' (h + d) = M (h + d)) (hR : HR h M N) : HR h M' N := by
  unfold HR at hR ⊢
  rw [e 1 (by decide) (by decide), e 2 (by decide) (by decide), e 3 (by decide) (by decide), e 4 (by decide) (by decide), e 5 (by decide) (by decide), e 6 (by decide) (by decide), e 7 (by decide) (by decide), e 8 (by decide) (by decide), e 9 (by decide) (by decide), e 10 (by decide) (by decide), e 11 (by decide) (by decide), e 12 (by decide) (by decide), e 13 (by decide) (by decide), e 14 (by decide) (by decide), e 15 (by decide) (by decide), e 16 (by decide) (by decide), e 17 (by decide) (by decide)]
  exact hR
theorem key_hall {h d : Nat} (hh : h = 1 ∨ 160 ≤ h) (h1 : 1 ≤ d) (h2 : d < 18) : keyb (h + d) = true := by
  unfold keyb
  rcases hh with rfl | hh
  · have a := Nat.ble_eq_true_of_le (show 2 ≤ 1 + d by omega)
    have b := Nat.ble_eq_true_of_le (show 1 + d ≤ 18 by omega)
    simp [a, b]
  · have a := Nat.ble_eq_true_of_le (show 160 ≤ h + d by omega)
    simp [a]
theorem Inv_Sm {M M' : Mem} (h : Sm M M') (hI : Inv M) : Inv M' := by
  obtain ⟨hH, hW, hT, hS⟩ := hI
  have e140 : M' 140 = M 140 := h.1 140 rfl
  have e142 : M' 142 = M 142 := h.1 142 rfl
  have e37 : M' 37 = M 37 := h.1 37 rfl
  have e143 : M' 143 = M 143 := h.1 143 rfl
  refine ⟨?_, by rw [e140]; exact hW, ?_, ?_⟩
  · rw [e140]
    exact HR_congr (fun d h1 h2 => h.1 _ (key_hall (Or.inl rfl) h1 h2)) hH
  · obtain ⟨t1, t2, t3, t4, t5, t6, t7⟩ := hT
    have k1 := h.2.1 1 (by decide) (by decide)
    have k2 := h.2.1 2 (by decide) (by decide)
    have k3 := h.2.1 3 (by decide) (by decide)
    refine ⟨by rw [k1]; exact t1, by rw [k1]; exact t2, by rw [k1, h.2.2.1]; exact t3, fun i hi => ?_, by rw [k2, h.2.2.2.1]; exact t5, by rw [k3, h.2.2.2.2]; exact t6, by rw [h.1 156 rfl]; exact t7⟩
    rw [h.1 39 rfl, h.1 155 rfl]
    rw [k1] at hi
    exact t4 i hi
  · intro j hj
    rw [e37, e143, e142]
    rcases hS j hj with q | ⟨q1, q2, q3, q4⟩
    · exact Or.inl q
    · exact Or.inr ⟨q1, q2, HR_congr (fun d h1 h2 => h.1 _ (key_hall (Or.inr (by omega)) h1 h2)) q3, q4⟩
/-- what one case owes -/
def Ow (o : Option Mem) (M : Mem) : Prop := ∃ M', o = some M' ∧ Inv M' ∧ M' 37 = M 37
theorem Ow_Sm {o : Option Mem} {M M' : Mem} (hI : Inv M) (e : o = some M') (h : Sm M M') : Ow o M := ⟨M', e, Inv_Sm h hI, h.1 37 rfl⟩
theorem cl1_some {α β : Type} {a : α} {k : α → Option β} : cl1 (some a) k = k a := rfl
theorem cl2_some {α β γ : Type} {a : α} {b : β} {k : α → β → Option γ} : cl2 (some (a, b)) k = k a b := rfl
theorem o_1 {M : Mem} (hI : Inv M) (p1 p2 p3 p4 : Int) : Ow (L_1 p1 p2 p3 p4 M) M := by
  refine Ow_Sm hI (M' := upd2 M 139 0 0) ?_ (Sm.up rfl)
  unfold L_1 f_X11_aisleCount f_X12_aisleCount
  rw [cl1_some, bnd_eq, cl2_some, if_pos]
  rw [upd2_ne (by decide)]
  have := hI.1.1.1
  rw [show M 2 0 = M (1 + 1) 0 from rfl, this]
