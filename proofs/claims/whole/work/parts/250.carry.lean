-- ===== HR and WF by their parts =====
def HRC (h : Nat) (M : Mem) (N : Nat → Int) : Prop := M (h + 4) 0 = N 3 ∧ ∀ i : Nat, (i : Int) < N 3 → M (h + 5) i = N (13 + 4 * i) ∧ M (h + 6) i = N (14 + 4 * i) ∧ M (h + 7) i = N (15 + 4 * i) ∧ M (h + 8) i = N (16 + 4 * i)
def HRD (h : Nat) (M : Mem) (N : Nat → Int) : Prop := M (h + 9) 0 = N 4 ∧ 0 ≤ M (h + 9) 1 ∧ (M (h + 9) 1 < 65536 ∧ ∀ o : Nat, N 4 ≤ (o : Int) → bit (M (h + 9) 1) o = false) ∧ ∀ o : Nat, (o : Int) < N 4 → M (h + 10) o = N (109 + 22 * o) ∧ M (h + 11) o = N (110 + 22 * o) ∧ M (h + 12) o = N (111 + 22 * o) ∧ N (112 + 22 * o) = (if bit (M (h + 9) 1) o then 1 else 0) ∧
    ∀ k : Nat, (k : Int) < N (111 + 22 * o) → M (h + 13) (6 * o + k) = N (113 + 22 * o + 3 * k) ∧ M (h + 14) (6 * o + k) = N (114 + 22 * o + 3 * k) ∧ M (h + 15) (6 * o + k) = N (115 + 22 * o + 3 * k)
def HRE (h : Nat) (M : Mem) (N : Nat → Int) : Prop := M (h + 16) 0 = N 5 ∧ ∀ b : Nat, (b : Int) < N 5 → M (h + 17) b = N (461 + b)
theorem HR_C {h : Nat} {M : Mem} {N : Nat → Int} (hR : HR h M N) : HRC h M N := hR.2.2.1
theorem HR_D {h : Nat} {M : Mem} {N : Nat → Int} (hR : HR h M N) : HRD h M N := hR.2.2.2.1
theorem HR_E {h : Nat} {M : Mem} {N : Nat → Int} (hR : HR h M N) : HRE h M N := hR.2.2.2.2
theorem HR_mk {h : Nat} {M M' : Mem} {N N' : Nat → Int} (hR : HR h M N) (hW : WF N)
    (eA : ∀ d, 1 ≤ d → d ≤ 3 → M' (h + d) = M (h + d)) (nA : ∀ k, k ≤ 2 ∨ 6 ≤ k ∧ k ≤ 12 → N' k = N k)
    (hC : ((∀ d, 4 ≤ d → d ≤ 8 → M' (h + d) = M (h + d)) ∧ (∀ k, k = 3 ∨ 13 ≤ k ∧ k < 109 → N' k = N k)) ∨ HRC h M' N')
    (hD : ((∀ d, 9 ≤ d → d ≤ 15 → M' (h + d) = M (h + d)) ∧ (∀ k, k = 4 ∨ 109 ≤ k ∧ k < 461 → N' k = N k)) ∨ HRD h M' N')
    (hE : ((∀ d, 16 ≤ d → d ≤ 17 → M' (h + d) = M (h + d)) ∧ (∀ k, k = 5 ∨ 461 ≤ k ∧ k < 469 → N' k = N k)) ∨ HRE h M' N') : HR h M' N' := by
  obtain ⟨A, B, C, D, E⟩ := hR
  have hw := hW.1
  refine ⟨?_, ?_, ?_, ?_, ?_⟩
  · unfold zns at A ⊢
    rw [eA 1 (by decide) (by decide), nA 0 (by omega), nA 1 (by omega), nA 2 (by omega), nA 6 (by omega), nA 7 (by omega), nA 8 (by omega), nA 11 (by omega), nA 12 (by omega)]
    exact A
  · rw [eA 2 (by decide) (by decide), eA 3 (by decide) (by decide), nA 7 (by omega), nA 8 (by omega), nA 9 (by omega), nA 10 (by omega)]
    exact B
  · rcases hC with ⟨e, n⟩ | hC
    · rw [e 4 (by decide) (by decide), e 5 (by decide) (by decide), e 6 (by decide) (by decide), e 7 (by decide) (by decide), e 8 (by decide) (by decide), n 3 (by omega)]
      refine ⟨C.1, fun i hi => ?_⟩
      rw [n _ (by omega), n _ (by omega), n _ (by omega), n _ (by omega)]
      exact C.2 i hi
    · exact hC
  · rcases hD with ⟨e, n⟩ | hD
    · rw [e 9 (by decide) (by decide), e 10 (by decide) (by decide), e 11 (by decide) (by decide), e 12 (by decide) (by decide), e 13 (by decide) (by decide), e 14 (by decide) (by decide), e 15 (by decide) (by decide), n 4 (by omega)]
      refine ⟨D.1, D.2.1, D.2.2.1, fun o ho => ?_⟩
      have h6 := (hW.2.2.2.2.1 o ho).2.2.2.2.2.1
      rw [n _ (by omega), n _ (by omega), n _ (by omega), n _ (by omega)]
      refine ⟨(D.2.2.2 o ho).1, (D.2.2.2 o ho).2.1, (D.2.2.2 o ho).2.2.1, (D.2.2.2 o ho).2.2.2.1, fun k hk => ?_⟩
      rw [n _ (by omega), n _ (by omega), n _ (by omega)]
      exact (D.2.2.2 o ho).2.2.2.2 k hk
    · exact hD
  · rcases hE with ⟨e, n⟩ | hE
    · rw [e 16 (by decide) (by decide), e 17 (by decide) (by decide), n 5 (by omega)]
      refine ⟨E.1, fun b hb => ?_⟩
      rw [n _ (by omega)]
      exact E.2 b hb
    · exact hE
theorem WF_mk {N N' : Nat → Int} (hW : WF N) (nA : ∀ k, k ≤ 2 ∨ 6 ≤ k ∧ k ≤ 12 → N' k = N k) (n3 : N 3 ≤ N' 3 ∧ N' 3 ≤ 24) (n4 : 0 ≤ N' 4 ∧ N' 4 ≤ 16) (n5 : 0 ≤ N' 5 ∧ N' 5 ≤ 8)
    (hI : (∀ k, k = 3 ∨ 13 ≤ k ∧ k < 109 → N' k = N k) ∨ ∀ i : Nat, (i : Int) < N' 3 → WFi N' i)
    (hO : (∀ k, k = 4 ∨ 109 ≤ k ∧ k < 461 → N' k = N k) ∨ ∀ o : Nat, (o : Int) < N' 4 → WFo N' o)
    (hB : ((∀ k, k = 5 ∨ 461 ≤ k ∧ k < 469 → N' k = N k) ∧ N 4 ≤ N' 4 ∧ ∀ o : Nat, (o : Int) < N 4 → N (110 + 22 * o) = 1 → N' (110 + 22 * o) = 1) ∨ ∀ b : Nat, (b : Int) < N' 5 → WFb N' b)
    (hG : ((∀ k, k = 5 ∨ 461 ≤ k ∧ k < 469 → N' k = N k) ∧ ∀ o : Nat, (o : Int) < N' 4 → N' (110 + 22 * o) = 1 → (o : Int) < N 4 ∧ N (110 + 22 * o) = 1) ∨ BC N') : WF N' := by
  obtain ⟨a, b, c, d, e, f, g⟩ := hW
  have m0 := nA 0 (by omega)
  have m1 := nA 1 (by omega)
  refine ⟨?_, ?_, ?_, ?_, ?_, ?_, ?_⟩
  · rw [m0, m1, nA 2 (by omega)]; omega
  · rw [nA 6 (by omega), nA 9 (by omega), nA 10 (by omega), nA 11 (by omega), nA 12 (by omega)]; exact b
  · rw [m0, nA 7 (by omega), nA 8 (by omega)]; exact c
  · rcases hI with n | hI
    · intro i hi
      rw [n 3 (by omega)] at hi
      have := d i hi
      unfold WFi at this ⊢
      rw [m0, m1, n _ (by omega), n _ (by omega), n _ (by omega), n _ (by omega)]
      exact this
    · exact hI
  · rcases hO with n | hO
    · intro o ho
      rw [n 4 (by omega)] at ho
      have := e o ho
      unfold WFo at this ⊢
      rw [n _ (by omega), n _ (by omega), n _ (by omega)]
      obtain ⟨t1, t2, t3, t4, t5, t6, t7⟩ := this
      refine ⟨t1, t2, t3, t4, t5, t6, fun k hk => ?_⟩
      have := t7 k hk
      rw [n (113 + 22 * o + 3 * k) (by omega), n (114 + 22 * o + 3 * k) (by omega), n (115 + 22 * o + 3 * k) (by omega)]
      omega
    · exact hO
  · rcases hB with ⟨n, n4', n1⟩ | hB
    · intro q hq
      rw [n 5 (by omega)] at hq
      have := f q hq
      unfold WFb at this ⊢
      rw [n 5 (by omega), n _ (by omega)]
      obtain ⟨t1, t2, t3, t4⟩ := this
      refine ⟨t1, t2, fun o ho => ?_, fun b' hb' hne o ho => ?_⟩
      · have := t3 o ho
        exact ⟨by omega, n1 o this.1 this.2⟩
      · rw [n _ (by omega)]
        exact t4 b' hb' hne o ho
    · exact hB
  · rcases hG with ⟨n, s⟩ | hG
    · intro o ho hs
      obtain ⟨o4, o1⟩ := s o ho hs
      obtain ⟨b, hb, q⟩ := g o o4 o1
      exact ⟨b, by rw [n 5 (by omega)]; exact hb, by rw [n _ (by omega)]; exact q⟩
    · exact hG
-- places
theorem ixO {o : Nat} (h : o < 100000) : ix (o : Int) = o := ix_nat (by omega)
theorem ixO0 {o : Nat} (h : o < 100) : ix (109 + 22 * (o : Int) + 0) = 109 + 22 * o := by rw [ix_of (by omega) (by omega)]; omega
theorem ixO1 {o : Nat} (h : o < 100) : ix (109 + 22 * (o : Int) + 1) = 110 + 22 * o := by rw [ix_of (by omega) (by omega)]; omega
theorem ixO2 {o : Nat} (h : o < 100) : ix (109 + 22 * (o : Int) + 2) = 111 + 22 * o := by rw [ix_of (by omega) (by omega)]; omega
theorem ixO3 {o : Nat} (h : o < 100) : ix (109 + 22 * (o : Int) + 3) = 112 + 22 * o := by rw [ix_of (by omega) (by omega)]; omega
theorem ixL0 {o k : Nat} (h : o < 100) (hk : k < 100) : ix (109 + 22 * (o : Int) + 4 + 3 * (k : Int)) = 113 + 22 * o + 3 * k := by rw [ix_of (by omega) (by omega)]; omega
theorem ixL1 {o k : Nat} (h : o < 100) (hk : k < 100) : ix (109 + 22 * (o : Int) + 4 + 3 * (k : Int) + 1) = 114 + 22 * o + 3 * k := by rw [ix_of (by omega) (by omega)]; omega
theorem ixL2 {o k : Nat} (h : o < 100) (hk : k < 100) : ix (109 + 22 * (o : Int) + 4 + 3 * (k : Int) + 2) = 115 + 22 * o + 3 * k := by rw [ix_of (by omega) (by omega)]; omega
theorem ixC {o k : Nat} (h : o < 100) (hk : k < 100) : ix ((o : Int) * 6 + (k : Int)) = 6 * o + k := by rw [ix_of (by omega) (by omega)]; omega
theorem ixB {b : Nat} (h : b < 100) : ix (461 + (b : Int)) = 461 + b := by rw [ix_of (by omega) (by omega)]; omega
theorem ixI0 {i : Nat} (h : i < 100) : ix (13 + 4 * (i : Int)) = 13 + 4 * i := by rw [ix_of (by omega) (by omega)]; omega
theorem ixI00 {i : Nat} (h : i < 100) : ix (13 + 4 * (i : Int) + 0) = 13 + 4 * i := by rw [ix_of (by omega) (by omega)]; omega
theorem ixI1 {i : Nat} (h : i < 100) : ix (13 + 4 * (i : Int) + 1) = 14 + 4 * i := by rw [ix_of (by omega) (by omega)]; omega
theorem ixI2 {i : Nat} (h : i < 100) : ix (13 + 4 * (i : Int) + 2) = 15 + 4 * i := by rw [ix_of (by omega) (by omega)]; omega
theorem ixI3 {i : Nat} (h : i < 100) : ix (13 + 4 * (i : Int) + 3) = 16 + 4 * i := by rw [ix_of (by omega) (by omega)]; omega
theorem wp_unroll {σ ρ : Type} {step : σ → Option (σ ⊕ ρ)} {R : ρ → Prop} {x : σ} (h : wp (step x) (Sum.elim (fun y => wp (wh step y) R) R)) : wp (wh step x) R := by
  obtain ⟨a, e, ha⟩ := h
  cases a with
  | inl y =>
    obtain ⟨r, e2, h2⟩ := ha
    exact ⟨r, (wh_step e).trans e2, h2⟩
  | inr r => exact ⟨r, wh_stop e, ha⟩
