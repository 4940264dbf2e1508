-- ===== bounds of lengths and work times =====
theorem rtS_rng {N : Nat → Int} (hW : WF N) {x : Int} {l : List Nat} (h6 : l.length ≤ 6) : 0 ≤ rtS N x l ∧ rtS N x l ≤ 240 := by
  have := sm_bd (g := fun k => 2 * hiF N x (l.getD k 0)) (n := l.length) (B := 40) (by omega) (fun i _ => by have := hi_rng (x := x) (a := l.getD i 0) hW; omega)
  unfold rtS
  omega
theorem ssS_rng {N : Nat → Int} (hW : WF N) {x : Int} {l : List Nat} (h6 : l.length ≤ 6) (h0 : 0 < l.length) : 0 ≤ ssS N x l ∧ ssS N x l ≤ 200 := by
  have tr := thr_rng hW
  have h := hi_rng (x := x) (a := l.getD (l.length - 1) 0) hW
  unfold ssS
  rcases (show l.length = 1 ∨ l.length = 2 ∨ l.length = 3 ∨ l.length = 4 ∨ l.length = 5 ∨ l.length = 6 by omega) with e | e | e | e | e | e <;> rw [e] at h ⊢ <;> simp <;> simp at h <;> omega
theorem gaS_rng {N : Nat → Int} (hW : WF N) {x : Int} {l : List Nat} (h6 : l.length ≤ 6) : 0 ≤ gaS N x l ∧ gaS N x l ≤ 300 := by
  have tr := thr_rng hW
  unfold gaS
  split
  · have := rtS_rng (x := x) hW h6; omega
  · have := sm_bd (g := fun j => 2 * (thr N - (gap N x (l.getD (j + 1) 0)).2.2)) (n := l.length - 2) (B := 42) (by omega) (fun i _ => by
      have r := gpA_rng (N := N) (x := x) (a := l.getD (i + 1) 0) (thr N).toNat
      unfold gap
      omega)
    omega
theorem cW_pos {N : Nat → Int} (hW : WF N) {x : Int} {l : List Nat} (hl : VL N x l) : 0 ≤ cW N x l l.length false ∧ cW N x l l.length false ≤ 252 := by
  have h6 := hl.1
  have a := cG_eq (N := N) (x := x) (l := l) (c := cG N x l l.length false) l.length false (Nat.mod_eq_of_lt (cG_lt _ _))
  have b := cC_pos hW hl (c := cG N x l l.length false) l.length false (Nat.le_refl _)
  have c := cW_rng (x := x) (l := l) hW l.length false
  simp only [Bool.false_eq_true, ↓reduceIte] at c
  omega
theorem lnZ_rng {N : Nat → Int} (hW : WF N) {x : Int} {z : Nat} (hz : (z : Int) < zns N) {pol : Int} : 0 ≤ lnZ N x z pol ∧ lnZ N x z pol ≤ 500 := by
  have hw := hW.1
  have hv := vz_VL (x := x) hW hz
  have h6 := hv.1
  unfold lnZ
  split
  · omega
  · rename_i q
    have hk : (vz N x z).length - 1 < (vz N x z).length := by omega
    have m := vz_mem hW hz (a := (vz N x z).getD ((vz N x z).length - 1) 0) (by rw [gD hk]; exact List.getElem_mem hk)
    have zr := z_rng hW hz
    have lc : 0 ≤ lnC N x (vz N x z) pol ∧ lnC N x (vz N x z) pol ≤ 300 := by
      unfold lnC
      split
      · have := ssS_rng (x := x) hW h6 (by omega); omega
      · split
        · exact gaS_rng hW h6
        · split
          · have := cW_pos hW hv; omega
          · have := rtS_rng (x := x) hW h6; omega
    obtain ⟨d, hd⟩ : ∃ d : Nat, (((vz N x z).getD ((vz N x z).length - 1) 0 : Nat) : Int) - zF N z = (d : Int) := ⟨((((vz N x z).getD ((vz N x z).length - 1) 0 : Nat) : Int) - zF N z).toNat, by omega⟩
    rw [hd]
    have hd6 : d ≤ 5 := by omega
    rcases (show d = 0 ∨ d = 1 ∨ d = 2 ∨ d = 3 ∨ d = 4 ∨ d = 5 by omega) with rfl | rfl | rfl | rfl | rfl | rfl <;> simp <;> omega
theorem wkS_rng {N : Nat → Int} (hW : WF N) {b z : Nat} (hz : (z : Int) < zns N) : 0 ≤ wkS N b z ∧ wkS N b z ≤ 3000 := by
  have hw2 := hW.2.1
  have l := lnZ_rng (x := IM N (N (461 + b))) (pol := N 6) hW hz
  have c := lcn_rng (x := IM N (N (461 + b))) (z := z) hW
  unfold wkS
  split
  · omega
  · obtain ⟨d, hd⟩ : ∃ d : Nat, N 12 = (d : Int) := ⟨(N 12).toNat, by omega⟩
    have hd9 : d ≤ 99 := by omega
    rw [hd]
    generalize lcn N (IM N (N (461 + b))) (vz N (IM N (N (461 + b))) z) = q at *
    have h1 : 0 ≤ (d : Int) * q := Int.mul_nonneg (by omega) c.1
    have h2 : (d : Int) * q ≤ 99 * 24 := Int.mul_le_mul (by omega) c.2 c.1 (by omega)
    omega
-- ===== times, for any sequence of the batches =====
/-- when the picker of position k is free in zone z -/
def tFree (L : Nat → Nat → Int) (k z : Nat) : Int := if k = 0 then 0 else L (k - 1) z
/-- when the way out of zone z is open -/
def tExit (N : Nat → Int) (S L : Nat → Nat → Int) (k z : Nat) : Int := if ((z + 1 : Nat) : Int) < zns N then (if N (9 + z) = 0 then tFree L k (z + 1) else if (k : Int) < N (9 + z) then 0 else S (k - (N (9 + z)).toNat) (z + 1)) else 0
/-- when the batch of position k arrives at zone z -/
def tArr (N : Nat → Int) (b : Nat) (S L : Nat → Nat → Int) (k : Nat) : Nat → Int
  | 0 => 0
  | z + 1 => i_max (i_max (tArr N b S L k z) (tFree L k z) + wkS N b z) (tExit N S L k z)
def tSt (N : Nat → Int) (b : Nat) (S L : Nat → Nat → Int) (k z : Nat) : Int := i_max (tArr N b S L k z) (tFree L k z)
/-- starts and leaves of the first k positions of sequence q -/
def tms (N : Nat → Int) (q : Nat → Nat) : Nat → (Nat → Nat → Int) × (Nat → Nat → Int)
  | 0 => (fun _ _ => 0, fun _ _ => 0)
  | k + 1 => (fun j z => if j = k then tSt N (q k) (tms N q k).1 (tms N q k).2 k z else (tms N q k).1 j z, fun j z => if j = k then tArr N (q k) (tms N q k).1 (tms N q k).2 k (z + 1) else (tms N q k).2 j z)
theorem imax_rng {a b A : Int} (ha : 0 ≤ a ∧ a ≤ A) (hb : 0 ≤ b ∧ b ≤ A) (hA : A < 2147483648) : 0 ≤ i_max a b ∧ i_max a b ≤ A ∧ a ≤ i_max a b := by
  unfold i_max
  rw [w32_ok ⟨by omega, by omega⟩, w32_ok ⟨by omega, by omega⟩]
  split <;> omega
theorem tArr_rng {N : Nat → Int} (hW : WF N) {b k : Nat} {S L : Nat → Nat → Int} {A : Int} (hA : 0 ≤ A ∧ A ≤ 1000000) (hS : ∀ j z : Nat, (z : Int) < zns N → 0 ≤ S j z ∧ S j z ≤ A) (hL : ∀ j z : Nat, (z : Int) < zns N → 0 ≤ L j z ∧ L j z ≤ A) : ∀ z : Nat, (z : Int) ≤ zns N → 0 ≤ tArr N b S L k z ∧ tArr N b S L k z ≤ A + 3000 * (z : Int) := by
  have cz := zn_rng N
  have fr : ∀ z : Nat, (z : Int) < zns N → 0 ≤ tFree L k z ∧ tFree L k z ≤ A := fun z hz => by
    unfold tFree
    split
    · omega
    · exact hL _ z hz
  intro z
  induction z with
  | zero => intro _; simp only [tArr]; omega
  | succ z ih =>
    intro hz
    have a := ih (by omega)
    have w := wkS_rng (b := b) (z := z) hW (by omega)
    have f := fr z (by omega)
    have m := imax_rng (a := tArr N b S L k z) (b := tFree L k z) (A := A + 3000 * (z : Int)) a ⟨by omega, by omega⟩ (by omega)
    have ex : 0 ≤ tExit N S L k z ∧ tExit N S L k z ≤ A := by
      unfold tExit
      split
      · split
        · exact fr (z + 1) (by omega)
        · split
          · omega
          · exact hS _ (z + 1) (by omega)
      · omega
    have m2 := imax_rng (a := i_max (tArr N b S L k z) (tFree L k z) + wkS N b z) (b := tExit N S L k z) (A := A + 3000 * ((z + 1 : Nat) : Int)) ⟨by omega, by omega⟩ ⟨by omega, by omega⟩ (by omega)
    simp only [tArr]
    exact ⟨m2.1, m2.2.1⟩
theorem tSt_rng {N : Nat → Int} (hW : WF N) {b k : Nat} {S L : Nat → Nat → Int} {A : Int} (hA : 0 ≤ A ∧ A ≤ 1000000) (hS : ∀ j z : Nat, (z : Int) < zns N → 0 ≤ S j z ∧ S j z ≤ A) (hL : ∀ j z : Nat, (z : Int) < zns N → 0 ≤ L j z ∧ L j z ≤ A) {z : Nat} (hz : (z : Int) < zns N) : 0 ≤ tSt N b S L k z ∧ tSt N b S L k z ≤ A + 3000 * (z : Int) ∧ 0 ≤ tFree L k z ∧ tFree L k z ≤ A ∧ 0 ≤ tExit N S L k z ∧ tExit N S L k z ≤ A := by
  have cz := zn_rng N
  have a := tArr_rng (b := b) (k := k) hW hA hS hL z (by omega)
  have fr : ∀ z : Nat, (z : Int) < zns N → 0 ≤ tFree L k z ∧ tFree L k z ≤ A := fun z hz => by
    unfold tFree
    split
    · omega
    · exact hL _ z hz
  have f := fr z hz
  have m := imax_rng (a := tArr N b S L k z) (b := tFree L k z) (A := A + 3000 * (z : Int)) a ⟨by omega, by omega⟩ (by omega)
  refine ⟨m.1, m.2.1, f.1, f.2, ?_⟩
  unfold tExit
  split
  · split
    · exact fr (z + 1) (by omega)
    · split
      · omega
      · exact hS _ (z + 1) (by omega)
  · omega
theorem tms_rng {N : Nat → Int} (hW : WF N) {q : Nat → Nat} : ∀ k : Nat, k ≤ 8 → (∀ j z : Nat, (z : Int) < zns N → 0 ≤ (tms N q k).1 j z ∧ (tms N q k).1 j z ≤ 9000 * (k : Int)) ∧ ∀ j z : Nat, (z : Int) < zns N → 0 ≤ (tms N q k).2 j z ∧ (tms N q k).2 j z ≤ 9000 * (k : Int) := by
  have cz := zn_rng N
  intro k
  induction k with
  | zero => intro _; exact ⟨fun j z _ => by simp [tms], fun j z _ => by simp [tms]⟩
  | succ k ih =>
    intro hk
    obtain ⟨a, b⟩ := ih (by omega)
    refine ⟨fun j z hz => ?_, fun j z hz => ?_⟩
    · simp only [tms]
      split
      · have := tSt_rng (b := q k) (k := k) hW (A := 9000 * (k : Int)) (by omega) a b hz
        omega
      · have := a j z hz; omega
    · simp only [tms]
      split
      · have := tArr_rng (b := q k) (k := k) hW (A := 9000 * (k : Int)) (by omega) a b (z + 1) (by omega)
        omega
      · have := b j z hz; omega
