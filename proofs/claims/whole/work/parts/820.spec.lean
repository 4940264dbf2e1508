-- ===== what a text says =====
def wdB (t : Nat → Int) (n p v : Nat) : Bool := decide (tK t n p = 1) && decide (tE t n p = tS t n p + lenS.getD v 0) && (List.range (lenS.getD v 0)).all (fun k => decide (t (tS t n p + k) = s_chr v (k : Int)))
set_option maxHeartbeats 600000 in
theorem wdB_t {t : Nat → Int} {n p v : Nat} : wdB t n p v = true ↔ WdI t n p v := by
  unfold wdB WdI
  simp only [Bool.and_eq_true, decide_eq_true_eq, List.all_eq_true, List.mem_range]
  constructor
  · rintro ⟨⟨a, b⟩, c⟩; exact ⟨a, b, c⟩
  · rintro ⟨a, b, c⟩; exact ⟨⟨a, b⟩, c⟩
set_option maxHeartbeats 600000 in
theorem wdB_f {t : Nat → Int} {n p v : Nat} : wdB t n p v = false ↔ ¬ WdI t n p v := by
  rw [← wdB_t]
  cases wdB t n p v <;> simp
abbrev Er : Type := Int × Int
abbrev Rs : Type := Er ⊕ (Nat × (Nat → Int))
def bdE {α β : Type} (x : Er ⊕ α) (k : α → Er ⊕ β) : Er ⊕ β := match x with
  | .inl e => .inl e
  | .inr a => k a
set_option maxHeartbeats 600000 in
theorem bd_l {α β : Type} {e : Er} {k : α → Er ⊕ β} : bdE (.inl e) k = .inl e := rfl
set_option maxHeartbeats 600000 in
theorem bd_r {α β : Type} {a : α} {k : α → Er ⊕ β} : bdE (.inr a) k = k a := rfl
def rdN (t : Nat → Int) (n : Nat) (lo hi : Int) (p : Nat) : Er ⊕ (Int × Nat) := if tK t n p = 2 then (if lo ≤ tN t n p ∧ tN t n p ≤ hi then .inr (tN t n p, tE t n p) else .inl (2, ((tS t n p : Nat) : Int))) else .inl (1, ((tS t n p : Nat) : Int))
def smc (t : Nat → Int) (n p : Nat) : Er ⊕ Nat := if tK t n p = 3 then .inr (tE t n p) else .inl (1, ((tS t n p : Nat) : Int))
def rItem (t : Nat → Int) (n : Nat) (N : Nat → Int) (p : Nat) : Rs := if N 3 = 24 then .inl (3, ((tS t n p : Nat) : Int)) else bdE (rdN t n 0 (N 0 - 1) (tE t n p)) (fun a => bdE (rdN t n 1 (N 1) a.2) (fun b => bdE (rdN t n 1 50 b.2) (fun c => bdE (rdN t n 0 999 c.2) (fun d => bdE (smc t n d.2) (fun q => .inr (q, opItem N a.1 b.1 c.1 d.1))))))
def rLines (t : Nat → Int) (n o : Nat) : Nat → (Nat → Int) → Nat → Rs
  | 0, _, _ => .inl (0, 0)
  | f + 1, N, p => if tK t n p = 3 then .inr (tE t n p, N) else if wdB t n p 3 = true then (if f = 0 then .inl (3, ((tS t n p : Nat) : Int)) else bdE (rdN t n 0 (N 3 - 1) (tE t n p)) (fun a => if hasB N o a.1 (lnN N o) = true then .inl (2, ((tS t n (tE t n p) : Nat) : Int)) else bdE (rdN t n 1 99 a.2) (fun b => rLines t n o f (opLine N o a.1 b.1) b.2))) else .inl (1, ((tS t n p : Nat) : Int))
def rOrder (t : Nat → Int) (n : Nat) (N : Nat → Int) (p : Nat) : Rs := if N 4 = 16 then .inl (3, ((tS t n p : Nat) : Int)) else bdE (rdN t n 0 9999 (tE t n p)) (fun a => rLines t n (N 4).toNat 7 (opOrder N a.1) a.2)
def zN (N : Nat → Int) (a b : Int) : Nat → Int := fun k => if k = 7 then a else if k = 8 then b else N k
def rZones (t : Nat → Int) (n : Nat) (N : Nat → Int) (p : Nat) : Rs := bdE (rdN t n 1 (N 0 - 1) (tE t n p)) (fun a => if tK t n a.2 = 2 then bdE (rdN t n (a.1 + 1) (N 0 - 1) a.2) (fun b => bdE (smc t n b.2) (fun q => .inr (q, zN N a.1 b.1))) else bdE (smc t n a.2) (fun q => .inr (q, zN N a.1 (-1))))
def rBuf (t : Nat → Int) (n : Nat) (N : Nat → Int) (p : Nat) : Rs := bdE (rdN t n 0 1 (tE t n p)) (fun a => bdE (rdN t n 0 4 a.2) (fun b => bdE (smc t n b.2) (fun q => .inr (q, setN N (9 + a.1.toNat) b.1))))
def rTim (t : Nat → Int) (n : Nat) (N : Nat → Int) (p : Nat) : Rs := bdE (rdN t n 0 99 (tE t n p)) (fun a => bdE (rdN t n 0 99 a.2) (fun b => bdE (smc t n b.2) (fun q => .inr (q, setN (setN N 11 a.1) 12 b.1))))
def rPl1 (t : Nat → Int) (n : Nat) (N : Nat → Int) (p : Nat) (v : Int) : Rs := bdE (smc t n (tE t n (tE t n p))) (fun q => .inr (q, setN N 6 v))
def rPol (t : Nat → Int) (n : Nat) (N : Nat → Int) (p : Nat) : Rs := if wdB t n (tE t n p) 8 = true then rPl1 t n N p 0 else if wdB t n (tE t n p) 9 = true then rPl1 t n N p 1 else if wdB t n (tE t n p) 10 = true then rPl1 t n N p 2 else if wdB t n (tE t n p) 11 = true then rPl1 t n N p 3 else .inl (1, ((tS t n (tE t n p) : Nat) : Int))
def rStm (t : Nat → Int) (n : Nat) (N : Nat → Int) (p : Nat) : Rs := if wdB t n p 1 = true then rItem t n N p else if wdB t n p 2 = true then rOrder t n N p else if wdB t n p 4 = true then rZones t n N p else if wdB t n p 5 = true then rBuf t n N p else if wdB t n p 6 = true then rTim t n N p else if wdB t n p 7 = true then rPol t n N p else .inl (1, ((tS t n p : Nat) : Int))
def hN (N : Nat → Int) (a b c : Int) : Nat → Int := fun k => if k = 0 then a else if k = 1 then b else if k = 2 then c else if k = 7 then -1 else if k = 8 then -1 else N k
def rHal (t : Nat → Int) (n : Nat) (N : Nat → Int) (p : Nat) : Rs := if wdB t n p 0 = true then bdE (rdN t n 1 6 (tE t n p)) (fun a => bdE (rdN t n 2 20 a.2) (fun b => bdE (rdN t n 1 9 b.2) (fun c => bdE (smc t n c.2) (fun q => .inr (q, hN N a.1 b.1 c.1))))) else .inl (1, ((tS t n p : Nat) : Int))
def rAll (t : Nat → Int) (n : Nat) : Nat → (Nat → Int) → Nat → Er ⊕ (Nat → Int)
  | 0, _, _ => .inl (0, 0)
  | f + 1, N, p => if tK t n p = 0 then .inr N else bdE (rStm t n N p) (fun x => rAll t n f x.2 x.1)
/-- the row that a text begins with -/
def row0 (N : Nat → Int) : Nat → Int := fun k => if k = 0 then 4 else if k = 1 then 10 else if k = 2 then 2 else if k = 7 then -1 else if k = 8 then -1 else if k = 9 then 1 else if k = 10 then 1 else if k = 12 then 1 else if k < 469 then 0 else N k
def rTxt (t : Nat → Int) (n : Nat) (N : Nat → Int) : Er ⊕ (Nat → Int) := bdE (rHal t n (row0 N) 0) (fun x => rAll t n (n + 2) x.2 x.1)
set_option maxHeartbeats 600000 in
theorem WF_row0 {N : Nat → Int} : WF (row0 N) := by
  unfold WF row0
  refine ⟨?_, ?_, ?_, ?_, ?_, ?_, ?_⟩
  · simp
  · simp
  · simp
  · intro i hi; simp at hi; omega
  · intro o ho; simp at ho; omega
  · intro b hb; simp at hb; omega
  · intro o ho; simp at ho; omega
set_option maxHeartbeats 600000 in
theorem WF_zN {N : Nat → Int} (hW : WF N) {a b : Int} (ha : 1 ≤ a ∧ a < N 0) (hb : b = -1 ∨ (a < b ∧ b < N 0)) : WF (zN N a b) := by
  have hw := hW.1
  have hw2 := hW.2.1
  refine WF_low (N := N) (fun k hk => ?_) (Or.inl ⟨?_, ?_⟩) hW ?_ ?_ ?_
  all_goals (unfold zN; (try (rw [if_neg (by omega), if_neg (by omega)])))
  all_goals simp
  all_goals omega
set_option maxHeartbeats 600000 in
theorem WF_hN {N : Nat → Int} (hW : WF N) (h3 : N 3 ≤ 0) {a b c : Int} (ha : 1 ≤ a ∧ a ≤ 6) (hb : 2 ≤ b ∧ b ≤ 20) (hc : 1 ≤ c ∧ c ≤ 9) : WF (hN N a b c) := by
  have hw := hW.1
  have hw2 := hW.2.1
  refine WF_low (N := N) (fun k hk => ?_) (Or.inr h3) hW ?_ ?_ ?_
  · unfold hN; rw [if_neg (by omega), if_neg (by omega), if_neg (by omega), if_neg (by omega), if_neg (by omega)]
  all_goals (unfold hN; (simp <;> omega))
set_option maxHeartbeats 600000 in
theorem WF_buf {N : Nat → Int} (hW : WF N) {x : Nat} (hx : x ≤ 1) {v : Int} (hv : 0 ≤ v ∧ v ≤ 4) : WF (setN N (9 + x) v) := by
  have hw := hW.1
  have hw2 := hW.2.1
  refine WF_low (N := N) (fun k hk => setN_ne (by omega)) (Or.inl ⟨setN_ne (by omega), setN_ne (by omega)⟩) hW ?_ ?_ ?_
  · simp (disch := omega) only [setN_ne]; omega
  · rcases (show x = 0 ∨ x = 1 by omega) with rfl | rfl
    · simp (disch := omega) only [setN_ne, setN_eq, Nat.add_zero]; omega
    · simp (disch := omega) only [setN_ne, setN_eq, Nat.reduceAdd]; omega
  · simp (disch := omega) only [setN_ne]; exact hW.2.2.1
