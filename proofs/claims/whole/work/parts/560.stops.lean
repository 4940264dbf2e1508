-- ===== stops: the items at a place, up and down an aisle =====
def sAn (N : Nat → Int) (x : Int) (a p : Nat) : Nat → List Nat
  | 0 => []
  | i + 1 => if bit x i = true ∧ N (13 + 4 * i) = (a : Int) ∧ N (14 + 4 * i) = (p : Int) then sAn N x a p i ++ [i] else sAn N x a p i
def sA (N : Nat → Int) (x : Int) (a p : Nat) : List Nat := sAn N x a p (N 3).toNat
def upL (N : Nat → Int) (x : Int) (a : Nat) : Nat → List Nat
  | 0 => []
  | p + 1 => upL N x a p ++ sA N x a (p + 1)
def dL (N : Nat → Int) (x : Int) (a top : Nat) : Nat → List Nat
  | 0 => []
  | k + 1 => dL N x a top k ++ sA N x a (top - k)
theorem sAn_nil {N : Nat → Int} (hW : WF N) {x : Int} {a p : Nat} (hp : N 1 < (p : Int)) : ∀ n : Nat, (n : Int) ≤ N 3 → sAn N x a p n = [] := by
  intro n
  induction n with
  | zero => intro _; rfl
  | succ n ih =>
    intro hn
    have wi := hW.2.2.2.1 n (by omega)
    unfold WFi at wi
    simp only [sAn]
    rw [if_neg (by rintro ⟨-, -, h⟩; omega)]
    exact ih (by omega)
theorem sA_nil {N : Nat → Int} (hW : WF N) {x : Int} {a p : Nat} (hp : N 1 < (p : Int)) : sA N x a p = [] := sAn_nil hW hp _ (by have := n3 hW; omega)
theorem sAn_pl {N : Nat → Int} {x : Int} {a p : Nat} : ∀ n : Nat, sAn N x a p n ≠ [] → ∃ j, j < n ∧ bit x j = true ∧ N (13 + 4 * j) = (a : Int) ∧ N (14 + 4 * j) = (p : Int) := by
  intro n
  induction n with
  | zero => intro h; exact absurd rfl h
  | succ n ih =>
    intro h
    simp only [sAn] at h
    by_cases c : bit x n = true ∧ N (13 + 4 * n) = (a : Int) ∧ N (14 + 4 * n) = (p : Int)
    · exact ⟨n, by omega, c⟩
    · rw [if_neg c] at h
      obtain ⟨j, j1, j2⟩ := ih h
      exact ⟨j, by omega, j2⟩
/-- no stop where the class's mask has no place -/
theorem sA_bit {N : Nat → Int} (hW : WF N) {x : Int} {a p : Nat} (h : bit (plF N x a) p = false) : sA N x a p = [] := by
  have q3 := n3 hW
  cases q : sA N x a p with
  | nil => rfl
  | cons y ys =>
    obtain ⟨j, j1⟩ := sAn_pl (N := N) (x := x) (a := a) (p := p) (N 3).toNat (by unfold sA at q; rw [q]; exact List.cons_ne_nil _ _)
    have := ((plA_ok (x := x) (a := a) hW (N 3).toNat (by omega)).2 p).mpr ⟨j, j1⟩
    unfold plF at h
    rw [h] at this
    cases this
theorem upL_top {N : Nat → Int} (hW : WF N) {x : Int} {a D : Nat} (hD : N 1 = (D : Int)) : ∀ j, upL N x a (D + j) = upL N x a D := by
  intro j
  induction j with
  | zero => rfl
  | succ j ih =>
    show upL N x a (D + j) ++ sA N x a (D + j + 1) = _
    rw [ih, sA_nil hW (by omega), List.append_nil]
theorem dL_top {N : Nat → Int} (hW : WF N) {x : Int} {a D : Nat} (hD : N 1 = (D : Int)) (h20 : D ≤ 20) : ∀ k, dL N x a 20 (20 - D + k) = dL N x a D k := by
  have h0 : ∀ j, j ≤ 20 - D → dL N x a 20 j = [] := by
    intro j
    induction j with
    | zero => intro _; rfl
    | succ j ih =>
      intro hj
      simp only [dL]
      rw [ih (by omega), sA_nil hW (by omega)]
      rfl
  intro k
  induction k with
  | zero => exact h0 _ (by omega)
  | succ k ih =>
    show dL N x a 20 (20 - D + k) ++ sA N x a (20 - (20 - D + k)) = dL N x a D k ++ sA N x a (D - k)
    rw [ih, show 20 - (20 - D + k) = D - k by omega]
-- lengths
def uLen (N : Nat → Int) (x : Int) (a n : Nat) : Nat → Nat
  | 0 => 0
  | p + 1 => uLen N x a n p + (sAn N x a (p + 1) n).length
theorem upL_len {N : Nat → Int} {x : Int} {a : Nat} : ∀ p, (upL N x a p).length = uLen N x a (N 3).toNat p := by
  intro p
  induction p with
  | zero => rfl
  | succ p ih => simp only [upL, uLen, List.length_append, ih]; rfl
theorem uLen_succ {N : Nat → Int} (hW : WF N) {x : Int} {a n : Nat} (hn : (n : Int) < N 3) : ∀ p : Nat, uLen N x a (n + 1) p = uLen N x a n p + (if bit x n = true ∧ N (13 + 4 * n) = (a : Int) ∧ N (14 + 4 * n) ≤ (p : Int) then 1 else 0) := by
  have wi := hW.2.2.2.1 n hn
  unfold WFi at wi
  intro p
  induction p with
  | zero => simp only [uLen]; rw [if_neg (by rintro ⟨-, -, h⟩; omega)]
  | succ p ih =>
    simp only [uLen, ih, sAn]
    by_cases c : bit x n = true ∧ N (13 + 4 * n) = (a : Int)
    · by_cases e : N (14 + 4 * n) = ((p + 1 : Nat) : Int)
      · rw [if_pos (show (bit x n = true ∧ N (13 + 4 * n) = (a : Int) ∧ N (14 + 4 * n) = ((p + 1 : Nat) : Int)) from ⟨c.1, c.2, e⟩), if_neg (show ¬ (bit x n = true ∧ N (13 + 4 * n) = (a : Int) ∧ N (14 + 4 * n) ≤ (p : Int)) from by rintro ⟨-, -, h⟩; omega), if_pos (show (bit x n = true ∧ N (13 + 4 * n) = (a : Int) ∧ N (14 + 4 * n) ≤ ((p + 1 : Nat) : Int)) from ⟨c.1, c.2, by omega⟩)]
        simp only [List.length_append, List.length_cons, List.length_nil]
        omega
      · rw [if_neg (show ¬ (bit x n = true ∧ N (13 + 4 * n) = (a : Int) ∧ N (14 + 4 * n) = ((p + 1 : Nat) : Int)) from fun h => e h.2.2)]
        by_cases l : N (14 + 4 * n) ≤ (p : Int)
        · rw [if_pos (show (bit x n = true ∧ N (13 + 4 * n) = (a : Int) ∧ N (14 + 4 * n) ≤ (p : Int)) from ⟨c.1, c.2, l⟩), if_pos (show (bit x n = true ∧ N (13 + 4 * n) = (a : Int) ∧ N (14 + 4 * n) ≤ ((p + 1 : Nat) : Int)) from ⟨c.1, c.2, by omega⟩)]
          omega
        · rw [if_neg (show ¬ (bit x n = true ∧ N (13 + 4 * n) = (a : Int) ∧ N (14 + 4 * n) ≤ (p : Int)) from fun h => l h.2.2), if_neg (show ¬ (bit x n = true ∧ N (13 + 4 * n) = (a : Int) ∧ N (14 + 4 * n) ≤ ((p + 1 : Nat) : Int)) from by rintro ⟨-, -, h⟩; omega)]
          omega
    · rw [if_neg (show ¬ (bit x n = true ∧ N (13 + 4 * n) = (a : Int) ∧ N (14 + 4 * n) = ((p + 1 : Nat) : Int)) from fun h => c ⟨h.1, h.2.1⟩), if_neg (show ¬ (bit x n = true ∧ N (13 + 4 * n) = (a : Int) ∧ N (14 + 4 * n) ≤ (p : Int)) from fun h => c ⟨h.1, h.2.1⟩), if_neg (show ¬ (bit x n = true ∧ N (13 + 4 * n) = (a : Int) ∧ N (14 + 4 * n) ≤ ((p + 1 : Nat) : Int)) from fun h => c ⟨h.1, h.2.1⟩)]
      omega
theorem uLen_cn {N : Nat → Int} (hW : WF N) {x : Int} {a D : Nat} (hD : N 1 = (D : Int)) : ∀ n : Nat, (n : Int) ≤ N 3 → ((uLen N x a n D : Nat) : Int) = cnA N x a n := by
  intro n
  induction n with
  | zero =>
    intro _
    have : ∀ p, uLen N x a 0 p = 0 := by
      intro p
      induction p with
      | zero => rfl
      | succ p ih => simp only [uLen, ih, sAn, List.length_nil]
    rw [this]
    rfl
  | succ n ih =>
    intro hn
    have wi := hW.2.2.2.1 n (by omega)
    unfold WFi at wi
    rw [uLen_succ hW (by omega)]
    simp only [cnA]
    rw [← ih (by omega)]
    by_cases c : bit x n = true ∧ N (13 + 4 * n) = (a : Int)
    · rw [if_pos ⟨c.1, c.2, by omega⟩, if_pos c]
      omega
    · rw [if_neg (fun h => c ⟨h.1, h.2.1⟩), if_neg c]
      omega
theorem up_cn {N : Nat → Int} (hW : WF N) {x : Int} {a D : Nat} (hD : N 1 = (D : Int)) : (((upL N x a D).length : Nat) : Int) = cnF N x a := by
  have q3 := n3 hW
  rw [upL_len]
  exact uLen_cn hW hD _ (by omega)
theorem dn_up {N : Nat → Int} {x : Int} {a D : Nat} : ∀ k, k ≤ D → (dL N x a D k).length + (upL N x a (D - k)).length = (upL N x a D).length := by
  intro k
  induction k with
  | zero => intro _; simp [dL]
  | succ k ih =>
    intro hk
    have := ih (by omega)
    have e : (upL N x a (D - k)).length = (upL N x a (D - (k + 1))).length + (sA N x a (D - k)).length := by
      rw [show D - k = (D - (k + 1)) + 1 by omega]
      simp only [upL, List.length_append]
    simp only [dL, List.length_append]
    omega
theorem upL_mono {N : Nat → Int} {x : Int} {a : Nat} {p q : Nat} (h : p ≤ q) : (upL N x a p).length ≤ (upL N x a q).length := by
  induction q with
  | zero => rw [show p = 0 by omega]; exact Nat.le_refl _
  | succ q ih =>
    by_cases e : p = q + 1
    · rw [e]; exact Nat.le_refl _
    · have := ih (by omega)
      simp only [upL, List.length_append]
      omega
-- all aisles together have no more than there are items
def cnS (N : Nat → Int) (x : Int) (n : Nat) : Nat → Int
  | 0 => 0
  | a + 1 => cnS N x n a + cnA N x a n
theorem cnS_le {N : Nat → Int} {x : Int} : ∀ n A : Nat, cnS N x n A ≤ (n : Int) := by
  intro n
  induction n with
  | zero =>
    intro A
    induction A with
    | zero => simp [cnS]
    | succ A ih => simp only [cnS, cnA]; omega
  | succ n ih =>
    have key : ∀ A : Nat, cnS N x (n + 1) A = cnS N x n A + (if bit x n = true ∧ 0 ≤ N (13 + 4 * n) ∧ N (13 + 4 * n) < (A : Int) then 1 else 0) := by
      intro A
      induction A with
      | zero => simp only [cnS]; rw [if_neg (by rintro ⟨-, h1, h2⟩; omega)]; omega
      | succ A ihA =>
        simp only [cnS, ihA, cnA]
        by_cases c : bit x n = true
        · by_cases e : N (13 + 4 * n) = (A : Int)
          · rw [if_pos (show (bit x n = true ∧ N (13 + 4 * n) = (A : Int)) from ⟨c, e⟩), if_neg (show ¬ (bit x n = true ∧ 0 ≤ N (13 + 4 * n) ∧ N (13 + 4 * n) < (A : Int)) from by rintro ⟨-, h1, h2⟩; omega), if_pos (show (bit x n = true ∧ 0 ≤ N (13 + 4 * n) ∧ N (13 + 4 * n) < ((A + 1 : Nat) : Int)) from ⟨c, by omega, by omega⟩)]
            omega
          · rw [if_neg (show ¬ (bit x n = true ∧ N (13 + 4 * n) = (A : Int)) from fun h => e h.2)]
            by_cases l : 0 ≤ N (13 + 4 * n) ∧ N (13 + 4 * n) < (A : Int)
            · rw [if_pos (show (bit x n = true ∧ 0 ≤ N (13 + 4 * n) ∧ N (13 + 4 * n) < (A : Int)) from ⟨c, l⟩), if_pos (show (bit x n = true ∧ 0 ≤ N (13 + 4 * n) ∧ N (13 + 4 * n) < ((A + 1 : Nat) : Int)) from ⟨c, by omega, by omega⟩)]
              omega
            · rw [if_neg (show ¬ (bit x n = true ∧ 0 ≤ N (13 + 4 * n) ∧ N (13 + 4 * n) < (A : Int)) from fun h => l h.2), if_neg (show ¬ (bit x n = true ∧ 0 ≤ N (13 + 4 * n) ∧ N (13 + 4 * n) < ((A + 1 : Nat) : Int)) from by rintro ⟨-, h1, h2⟩; omega)]
              omega
        · rw [if_neg (show ¬ (bit x n = true ∧ N (13 + 4 * n) = (A : Int)) from fun h => c h.1), if_neg (show ¬ (bit x n = true ∧ 0 ≤ N (13 + 4 * n) ∧ N (13 + 4 * n) < (A : Int)) from fun h => c h.1), if_neg (show ¬ (bit x n = true ∧ 0 ≤ N (13 + 4 * n) ∧ N (13 + 4 * n) < ((A + 1 : Nat) : Int)) from fun h => c h.1)]
          omega
    intro A
    have := ih A
    rw [key]
    split <;> omega
/-- the stops of a list of aisles -/
def lcn (N : Nat → Int) (x : Int) (l : List Nat) : Int := sm (fun k => cnF N x (l.getD k 0)) l.length
theorem cn_zero {N : Nat → Int} (hW : WF N) {x : Int} {a : Nat} (h : ¬ 0 < hiF N x a) : cnF N x a = 0 := by
  have q3 := n3 hW
  have hw := hW.1
  obtain ⟨D, hD⟩ : ∃ D : Nat, N 1 = (D : Int) := ⟨(N 1).toNat, by omega⟩
  rw [← up_cn hW hD]
  have pz := (pl_hi (x := x) (a := a) hW).mpr h
  have : ∀ p, upL N x a p = [] := by
    intro p
    induction p with
    | zero => rfl
    | succ p ih => simp only [upL, ih]; rw [sA_bit hW (by rw [pz]; exact bit_zero _)]; rfl
  rw [this]
  rfl
theorem cn_pos {N : Nat → Int} {x : Int} {a : Nat} : ∀ n, 0 ≤ cnA N x a n := by
  intro n
  induction n with
  | zero => simp [cnA]
  | succ n ih => simp only [cnA]; split <;> omega
theorem lcn_vs {N : Nat → Int} (hW : WF N) {x : Int} {f : Nat} : ∀ d, lcn N x (vs N x f d) = sm (fun j => cnF N x (f + j)) d := by
  intro d
  induction d with
  | zero => rfl
  | succ d ih =>
    simp only [vs, sm]
    rw [← ih]
    split
    · unfold lcn
      rw [List.length_append]
      simp only [List.length_cons, List.length_nil, Nat.zero_add, sm]
      rw [show sm (fun k => cnF N x ((vs N x f d ++ [f + d]).getD k 0)) (vs N x f d).length = sm (fun k => cnF N x ((vs N x f d).getD k 0)) (vs N x f d).length from sm_congr (fun i hi => by
        rw [gD (show i < (vs N x f d ++ [f + d]).length by rw [List.length_append]; omega), gD hi, List.getElem_append_left hi])]
      rw [gD (show (vs N x f d).length < (vs N x f d ++ [f + d]).length by rw [List.length_append]; simp)]
      simp
    · rename_i h
      rw [cn_zero hW h]
      omega
theorem cnS_part {N : Nat → Int} {x : Int} {f : Nat} : ∀ d, cnS N x (N 3).toNat f + sm (fun j => cnF N x (f + j)) d = cnS N x (N 3).toNat (f + d) := by
  intro d
  induction d with
  | zero => simp [sm]
  | succ d ih =>
    show cnS N x (N 3).toNat f + (sm (fun j => cnF N x (f + j)) d + cnF N x (f + d)) = cnS N x (N 3).toNat (f + d) + cnA N x (f + d) (N 3).toNat
    rw [← ih]
    unfold cnF
    omega
theorem cnS_pos {N : Nat → Int} {x : Int} {n : Nat} : ∀ A, 0 ≤ cnS N x n A := by
  intro A
  induction A with
  | zero => simp [cnS]
  | succ A ih => simp only [cnS]; have := cn_pos (N := N) (x := x) (a := A) n; omega
theorem lcn_24 {N : Nat → Int} (hW : WF N) {x : Int} {f d : Nat} : lcn N x (vs N x f d) ≤ 24 := by
  have q3 := n3 hW
  rw [lcn_vs hW]
  have a := cnS_part (N := N) (x := x) (f := f) d
  have b := cnS_le (N := N) (x := x) (N 3).toNat (f + d)
  have c := cnS_pos (N := N) (x := x) (n := (N 3).toNat) f
  omega
