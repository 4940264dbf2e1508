-- ===== sequences of batches, their tardiness =====
/-- tardiness of the first k positions of the sequence q -/
def vq (N : Nat → Int) (q : Nat → Nat) (k : Nat) : Int := sm (fun j => td N (N (461 + q j)) ((tms N q (j + 1)).2 j (zns N - 1).toNat) (N 4).toNat) k
set_option maxHeartbeats 600000 in
theorem tms_q {N : Nat → Int} {q q' : Nat → Nat} : ∀ k : Nat, (∀ j, j < k → q j = q' j) → tms N q k = tms N q' k := by
  intro k
  induction k with
  | zero => intro _; rfl
  | succ k ih =>
    intro h
    have i := ih (fun j hj => h j (by omega))
    simp only [tms]
    rw [i, h k (by omega)]
set_option maxHeartbeats 600000 in
theorem vq_q {N : Nat → Int} {q q' : Nat → Nat} {k : Nat} (h : ∀ j, j < k → q j = q' j) : vq N q k = vq N q' k := by
  unfold vq
  refine sm_congr (fun j hj => ?_)
  rw [h j hj, tms_q (j + 1) (fun i hi => h i (by omega))]
set_option maxHeartbeats 600000 in
theorem vq_full {N : Nat → Int} {q : Nat → Nat} : tdQ N q (N 5).toNat = vq N q (N 5).toNat := by
  unfold tdQ vq
  refine sm_congr (fun k hk => ?_)
  unfold cmq
  rw [(tms_st hk _).2]
set_option maxHeartbeats 600000 in
theorem cj_rng {N : Nat → Int} (hW : WF N) {q : Nat → Nat} {j : Nat} (hj : j < 8) : 0 ≤ (tms N q (j + 1)).2 j (zns N - 1).toNat ∧ (tms N q (j + 1)).2 j (zns N - 1).toNat ≤ 72000 := by
  have cz := zn_rng N
  have h := (tms_rng hW (q := q) (j + 1) (by omega)).2 j (zns N - 1).toNat (by omega)
  omega
set_option maxHeartbeats 600000 in
theorem vq_rng {N : Nat → Int} (hW : WF N) {q : Nat → Nat} : ∀ n : Nat, n ≤ 8 → 0 ≤ vq N q n ∧ vq N q n ≤ 1600000 * (n : Int) := by
  have q4 := n4 hW
  intro n
  induction n with
  | zero => intro _; simp [vq, sm]
  | succ n ih =>
    intro hn
    have i := ih (by omega)
    have r := td_rng hW (m := N (461 + q n)) (cj_rng hW (q := q) (j := n) (by omega)) (N 4).toNat (by omega)
    simp only [vq, sm] at i ⊢
    omega
def qL (p : List Nat) (j : Nat) : Nat := p.getD j 0
def vL (N : Nat → Int) (p : List Nat) : Int := vq N (qL p) p.length
set_option maxHeartbeats 600000 in
theorem qL_ap {p : List Nat} {x j : Nat} (h : j < p.length) : qL (p ++ [x]) j = qL p j := by
  unfold qL
  rw [List.getD_eq_getElem?_getD, List.getD_eq_getElem?_getD, List.getElem?_append_left h]
set_option maxHeartbeats 600000 in
theorem qL_at {p : List Nat} {x : Nat} : qL (p ++ [x]) p.length = x := by
  unfold qL
  simp
set_option maxHeartbeats 600000 in
theorem vL_ap {N : Nat → Int} {p : List Nat} {x : Nat} : vL N (p ++ [x]) = vL N p + td N (N (461 + x)) ((tms N (qL (p ++ [x])) (p.length + 1)).2 p.length (zns N - 1).toNat) (N 4).toNat := by
  unfold vL
  rw [List.length_append, List.length_singleton]
  have e : vq N (qL (p ++ [x])) p.length = vq N (qL p) p.length := vq_q (fun j hj => qL_ap hj)
  rw [← e]
  show sm _ _ + _ = _
  dsimp only
  rw [qL_at]
  rfl
set_option maxHeartbeats 600000 in
theorem vL_le {N : Nat → Int} (hW : WF N) {p : List Nat} {x : Nat} (h : p.length < 8) : vL N p ≤ vL N (p ++ [x]) := by
  have q4 := n4 hW
  have r := td_rng hW (m := N (461 + x)) (cj_rng hW (q := qL (p ++ [x])) h) (N 4).toNat (by omega)
  rw [vL_ap]
  omega
/-- a better sequence is kept -/
def upS (N : Nat → Int) (s : Int × List Nat) (p : List Nat) : Int × List Nat := if vL N p < s.1 then (vL N p, p) else s
/-- depth first, without what can't be better -/
def dfs (N : Nat → Int) (n : Nat) : Nat → List Nat → Int × List Nat → Int × List Nat
  | 0, _, s => s
  | d + 1, p, s => if p.length < n then (List.range n).foldl (fun s x => if p.contains x = true then s else if vL N (p ++ [x]) < s.1 then dfs N n d (p ++ [x]) s else s) s else (vL N p, p)
/-- all sequences that begin with p -/
def allp (n : Nat) : Nat → List Nat → List (List Nat)
  | 0, _ => []
  | d + 1, p => if p.length < n then (List.range n).flatMap (fun x => if p.contains x = true then [] else allp n d (p ++ [x])) else [p]
set_option maxHeartbeats 600000 in
theorem allp_le {N : Nat → Int} (hW : WF N) {n : Nat} (hn : n ≤ 8) : ∀ (d : Nat) (p c : List Nat), c ∈ allp n d p → vL N p ≤ vL N c := by
  intro d
  induction d with
  | zero => intro p c h; simp [allp] at h
  | succ d ih =>
    intro p c h
    simp only [allp] at h
    split at h
    · rename_i hl
      rw [List.mem_flatMap] at h
      obtain ⟨x, _, hx⟩ := h
      split at hx
      · simp at hx
      · have a := ih _ _ hx
        have b := vL_le hW (x := x) (show p.length < 8 by omega)
        omega
    · rw [List.mem_singleton] at h
      rw [h]
      exact Int.le_refl _
set_option maxHeartbeats 600000 in
theorem up_id {N : Nat → Int} : ∀ (L : List (List Nat)) (s : Int × List Nat), (∀ c, c ∈ L → ¬ vL N c < s.1) → L.foldl (upS N) s = s := by
  intro L
  induction L with
  | nil => intro s _; rfl
  | cons c L ih =>
    intro s h
    have e : upS N s c = s := by unfold upS; rw [if_neg (h c (List.mem_cons_self ..))]
    rw [List.foldl_cons, e]
    exact ih s (fun c' hc => h c' (List.mem_cons_of_mem _ hc))
set_option maxHeartbeats 600000 in
theorem fl_fm {α β γ : Type} {f : β → α → β} {g : α → List γ} {u : β → γ → β} : ∀ (L : List α) (s : β), (∀ x s, f s x = (g x).foldl u s) → L.foldl f s = (L.flatMap g).foldl u s := by
  intro L
  induction L with
  | nil => intro s _; rfl
  | cons x L ih =>
    intro s h
    rw [List.foldl_cons, List.flatMap_cons, List.foldl_append, h x s]
    exact ih _ h
set_option maxHeartbeats 600000 in
theorem dfs_eq {N : Nat → Int} (hW : WF N) {n : Nat} (hn : n ≤ 8) : ∀ (d : Nat) (p : List Nat) (s : Int × List Nat), (p.length < n ∨ vL N p < s.1) → dfs N n d p s = (allp n d p).foldl (upS N) s := by
  intro d
  induction d with
  | zero => intro p s _; rfl
  | succ d ih =>
    intro p s h
    simp only [dfs, allp]
    by_cases hl : p.length < n
    · rw [if_pos hl, if_pos hl]
      refine fl_fm _ _ (fun x s => ?_)
      try dsimp only
      by_cases hx : p.contains x = true
      · rw [if_pos hx, if_pos hx]; rfl
      · rw [if_neg hx, if_neg hx]
        by_cases hv : vL N (p ++ [x]) < s.1
        · rw [if_pos hv]
          exact ih _ _ (Or.inr hv)
        · rw [if_neg hv]
          refine (up_id _ _ (fun c hc => ?_)).symm
          have := allp_le hW hn d _ _ hc
          omega
    · rw [if_neg hl, if_neg hl]
      have hv : vL N p < s.1 := h.resolve_left hl
      show _ = upS N s p
      unfold upS
      rw [if_pos hv]
-- the next sequence
def fI (a : Nat → Nat) : Nat → Option Nat
  | 0 => none
  | m + 1 => if a (m + 1) < a m then fI a m else some m
def fK (a : Nat → Nat) (v : Nat) : Nat → Nat
  | 0 => 0
  | k + 1 => if a (k + 1) < v then fK a v k else k + 1
def swq (a : Nat → Nat) (i k : Nat) : Nat → Nat := fun j => if j = k then a i else if j = i then a k else a j
def rvq : Nat → Nat → Nat → (Nat → Nat) → Nat → Nat
  | 0, _, _, a => a
  | f + 1, lo, hi, a => if lo < hi then rvq f (lo + 1) (hi - 1) (swq a lo hi) else a
def nxf (n : Nat) (a : Nat → Nat) : Option (Nat → Nat) :=
  match fI a (n - 1) with
  | none => none
  | some i => some (rvq 8 (i + 1) (n - 1) (swq a i (fK a (a i) (n - 1))))
def nxl (n : Nat) (l : List Nat) : Option (List Nat) :=
  match nxf n (qL l) with
  | none => none
  | some b => some ((List.range n).map b)
def chn (n : Nat) : List (List Nat) → Bool
  | [] => true
  | a :: r => (match r with
    | [] => (nxl n a).isNone
    | b :: _ => nxl n a == some b) && chn n r
def okl (n : Nat) (l : List Nat) : Bool := l.length == n && (List.range n).all (fun j => Nat.blt (qL l j) n) && (List.range n).all (fun j => (List.range n).all (fun k => qL l j != qL l k || j == k)) && (List.range n).all (fun v => (List.range n).any (fun j => qL l j == v))
def chA (n : Nat) : Bool := (match allp n 8 [] with
  | [] => false
  | a :: _ => a == List.range n) && chn n (allp n 8 []) && (allp n 8 []).all (okl n)
set_option maxHeartbeats 600000 in
theorem chA0 : chA 0 = true := by decide +kernel
set_option maxHeartbeats 600000 in
theorem chA1 : chA 1 = true := by decide +kernel
set_option maxHeartbeats 600000 in
theorem chA2 : chA 2 = true := by decide +kernel
set_option maxHeartbeats 600000 in
theorem chA3 : chA 3 = true := by decide +kernel
set_option maxHeartbeats 600000 in
theorem chA4 : chA 4 = true := by decide +kernel
set_option maxHeartbeats 600000 in
theorem chA5 : chA 5 = true := by decide +kernel
set_option maxHeartbeats 600000 in
theorem chA6 : chA 6 = true := by decide +kernel
set_option maxHeartbeats 600000 in
theorem chA_all {n : Nat} (h : n ≤ 6) : chA n = true := by
  rcases (show n = 0 ∨ n = 1 ∨ n = 2 ∨ n = 3 ∨ n = 4 ∨ n = 5 ∨ n = 6 by omega) with rfl | rfl | rfl | rfl | rfl | rfl | rfl
  · exact chA0
  · exact chA1
  · exact chA2
  · exact chA3
  · exact chA4
  · exact chA5
  · exact chA6
set_option maxHeartbeats 600000 in
theorem okl_pm {n : Nat} {l : List Nat} (h : okl n l = true) : l.length = n ∧ PMq n (qL l) := by
  unfold okl at h
  simp only [Bool.and_eq_true, beq_iff_eq, List.all_eq_true, List.any_eq_true, List.mem_range, Bool.or_eq_true, bne_iff_ne, ne_eq] at h
  obtain ⟨⟨⟨h1, h2⟩, h3⟩, h4⟩ := h
  refine ⟨h1, fun j hj => ?_, fun j k hj hk e => ?_, fun v hv => ?_⟩
  · exact Nat.blt_eq.mp (h2 j hj)
  · rcases h3 j hj k hk with a | a
    · exact absurd e a
    · exact a
  · obtain ⟨j, a, b⟩ := h4 v hv
    exact ⟨j, a, b⟩
set_option maxHeartbeats 600000 in
theorem seqs {n : Nat} (h : n ≤ 6) : ∃ r : List (List Nat), allp n 8 [] = List.range n :: r ∧ chn n (List.range n :: r) = true ∧ ∀ l, l ∈ List.range n :: r → l.length = n ∧ PMq n (qL l) := by
  have c := chA_all h
  unfold chA at c
  simp only [Bool.and_eq_true] at c
  obtain ⟨⟨c1, c2⟩, c3⟩ := c
  cases e : allp n 8 [] with
  | nil => rw [e] at c1; cases c1
  | cons a r =>
    rw [e] at c1 c2 c3
    dsimp only at c1
    rw [beq_iff_eq] at c1
    subst c1
    refine ⟨r, rfl, c2, fun l hl => okl_pm ?_⟩
    rw [List.all_eq_true] at c3
    exact c3 l hl
