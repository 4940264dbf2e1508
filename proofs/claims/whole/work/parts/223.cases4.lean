/-- a number of the layout that stands alone: policy, setup, per item -/
theorem HR_lay {h : Nat} {M : Mem} {N : Nat → Int} {s n : Nat} {v : Int} (hs : (s = 5 ∧ n = 6) ∨ (s = 6 ∧ n = 11) ∨ (s = 7 ∧ n = 12)) (hR : HR h M N) : HR h (upd2 M (h + 1) s v) (setN N n v) := by
  have en : ∀ k, k ≠ n → setN N n v k = N k := fun k hk => setN_ne hk
  have em : ∀ d, d ≠ 1 → upd2 M (h + 1) s v (h + d) = M (h + d) := fun d hd => upd2_ne (by omega)
  unfold HR at hR ⊢
  rw [em 2 (by decide), em 3 (by decide), em 4 (by decide), em 5 (by decide), em 6 (by decide), em 7 (by decide), em 8 (by decide), em 9 (by decide), em 10 (by decide), em 11 (by decide), em 12 (by decide), em 13 (by decide), em 14 (by decide), em 15 (by decide), em 16 (by decide), em 17 (by decide)]
  unfold zns at hR ⊢
  rw [en 0 (by omega), en 1 (by omega), en 2 (by omega), en 3 (by omega), en 4 (by omega), en 5 (by omega), en 7 (by omega), en 8 (by omega), en 9 (by omega), en 10 (by omega), upd2_row (show 0 ≠ s by omega), upd2_row (show 1 ≠ s by omega), upd2_row (show 2 ≠ s by omega), upd2_row (show 3 ≠ s by omega)]
  obtain ⟨⟨a0, a1, a2, a3, a5, a6, a7⟩, h2, ⟨h3, h4⟩, ⟨h5, h6, h7, h8⟩, h9, h10⟩ := hR
  refine ⟨⟨a0, a1, a2, a3, ?_, ?_, ?_⟩, h2, ⟨h3, fun j hj => ?_⟩, ⟨h5, h6, h7, fun o ho => ?_⟩, h9, fun b hb => ?_⟩
  · rcases hs with ⟨rfl, rfl⟩ | ⟨rfl, rfl⟩ | ⟨rfl, rfl⟩
    · rw [upd2_same, setN_eq]
    · rw [upd2_row (by decide), en 6 (by decide)]; exact a5
    · rw [upd2_row (by decide), en 6 (by decide)]; exact a5
  · rcases hs with ⟨rfl, rfl⟩ | ⟨rfl, rfl⟩ | ⟨rfl, rfl⟩
    · rw [upd2_row (by decide), en 11 (by decide)]; exact a6
    · rw [upd2_same, setN_eq]
    · rw [upd2_row (by decide), en 11 (by decide)]; exact a6
  · rcases hs with ⟨rfl, rfl⟩ | ⟨rfl, rfl⟩ | ⟨rfl, rfl⟩
    · rw [upd2_row (by decide), en 12 (by decide)]; exact a7
    · rw [upd2_row (by decide), en 12 (by decide)]; exact a7
    · rw [upd2_same, setN_eq]
  · rw [en _ (by omega), en _ (by omega), en _ (by omega), en _ (by omega)]
    exact h4 j hj
  · rw [en _ (by omega), en _ (by omega), en _ (by omega), en _ (by omega)]
    refine ⟨(h8 o ho).1, (h8 o ho).2.1, (h8 o ho).2.2.1, (h8 o ho).2.2.2.1, fun k hk => ?_⟩
    rw [en _ (by omega), en _ (by omega), en _ (by omega)]
    exact (h8 o ho).2.2.2.2 k hk
  · rw [en _ (by omega)]
    exact h10 b hb
theorem WF_lay {N : Nat → Int} {n : Nat} {v : Int} (hn : n = 6 ∨ n = 11 ∨ n = 12) (h0 : 0 ≤ v) (h1 : v ≤ 99) (h6 : n = 6 → v ≤ 3) (hW : WF N) : WF (setN N n v) := by
  have en : ∀ k, k ≠ n → setN N n v k = N k := fun k hk => setN_ne hk
  unfold WF at hW ⊢
  rw [en 0 (by omega), en 1 (by omega), en 2 (by omega), en 3 (by omega), en 4 (by omega), en 5 (by omega), en 7 (by omega), en 8 (by omega), en 9 (by omega), en 10 (by omega)]
  obtain ⟨a, b, c, d, e, f⟩ := hW
  refine ⟨a, ?_, c, fun j hj => ?_, fun o ho => ?_, fun q hq => ?_⟩
  · rcases hn with rfl | rfl | rfl
    · rw [setN_eq, en 11 (by decide), en 12 (by decide)]; have := h6 rfl; omega
    · rw [setN_eq, en 6 (by decide), en 12 (by decide)]; omega
    · rw [setN_eq, en 6 (by decide), en 11 (by decide)]; omega
  · have := d j hj
    unfold WFi at this ⊢
    rw [en 0 (by omega), en 1 (by omega), en _ (by omega), en _ (by omega), en _ (by omega), en _ (by omega)]
    exact this
  · have := e o ho
    unfold WFo at this ⊢
    rw [en 3 (by omega), en _ (by omega), en _ (by omega), en _ (by omega)]
    obtain ⟨t1, t2, t3, t4, t5, t6, t7⟩ := this
    refine ⟨t1, t2, t3, t4, t5, t6, fun k hk => ?_⟩
    rw [en _ (by omega), en _ (by omega), en _ (by omega)]
    exact t7 k hk
  · have := f q hq
    unfold WFb at this ⊢
    rw [en 4 (by omega), en 5 (by omega), en _ (by omega)]
    obtain ⟨t1, t2, t3, t4⟩ := this
    refine ⟨t1, t2, fun o ho => ?_, fun b' hb' hne o ho => ?_⟩
    · rw [en _ (by omega)]
      exact t3 o ho
    · rw [en _ (by omega)]
      exact t4 b' hb' hne o ho
