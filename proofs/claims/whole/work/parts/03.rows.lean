-- ===== the world's cells =====
theorem kd_lt {i t N : Nat} (h : kd i = (t + 1, N)) : i < 196 := by
  rcases Nat.lt_or_ge i 196 with q | q
  · exact q
  · exfalso
    have h1 : kd i = (0, 0) := by
      unfold kd
      rw [List.getD_eq_getElem?_getD, List.getElem?_eq_none (Nat.le_trans (by decide +kernel) q)]
      rfl
    rw [h1] at h
    cases h
theorem ent_congr {G : Gx} {M M' : Mem} {i : Nat} (h : M i = M' i) : ent G M i = ent G M' i := by
  have h2 : ∀ ci, flds G M i ci = flds G M' i ci := by
    intro ci
    unfold flds
    congr 1
    funext k o
    cases o with
    | none => simp only [fv, h]
    | some off => rfl
  unfold ent
  rw [h, h2]
theorem wl_at {G : Gx} (M : Mem) {i k : Nat} (hk : (gL G)[k]? = some i) : (wl G M)[k]? = some (gad G i, ent G M i) := by
  unfold wl
  rw [List.getElem?_map, hk]
  rfl
theorem wl_set {G : Gx} {M M' : Mem} {i k : Nat} {e : va_E} (nd : (gL G).Nodup) (hk : (gL G)[k]? = some i) (he : ent G M' i = e) (ho : ∀ j, j ≠ i → M' j = M j) : (wl G M).set k (gad G i, e) = wl G M' := by
  apply List.ext_getElem?
  intro j
  rw [List.getElem?_set]
  have hlen : k < (gL G).length := (List.getElem?_eq_some_iff.mp hk).1
  by_cases hj : k = j
  · subst hj
    rw [if_pos rfl, if_pos (by unfold wl; rw [List.length_map]; exact hlen), wl_at M' hk, he]
  · rw [if_neg hj]
    unfold wl
    rw [List.getElem?_map, List.getElem?_map]
    cases hq : (gL G)[j]? with
    | none => rfl
    | some z =>
      have hz : z ≠ i := by
        intro e1
        subst e1
        exact hj (List.getElem?_inj hlen nd |>.mp (hk.trans hq.symm))
      simp only [Option.map_some, ent_congr (ho z hz)]
theorem at_k {G : Gx} {i t N : Nat} (h : at_ G i t N) : ∃ k : Nat, (gL G)[k]? = some i := List.getElem?_of_mem h.1
theorem ent1 {G : Gx} {M : Mem} {i N : Nat} (h : kd i = (1, N)) : ent G M i = .inl (gcy G 0, N, .inl (fun j => Int32.ofInt (M i j))) := by unfold ent; rw [h]; rfl
theorem ent2 {G : Gx} {M : Mem} {i N : Nat} (h : kd i = (2, N)) : ent G M i = .inl (gcy G 1, N, .inl (fun j => Int32.ofInt (M i j))) := by unfold ent; rw [h]; rfl
theorem ent3 {G : Gx} {M : Mem} {i N : Nat} (h : kd i = (3, N)) : ent G M i = .inl (gcy G 2, N, .inl (fun j => Int32.ofInt (M i j))) := by unfold ent; rw [h]; rfl
theorem ent4 {G : Gx} {M : Mem} {i N : Nat} (h : kd i = (4, N)) : ent G M i = .inl (gcy G 3, N, .inr (.inl (fun j => Int64.ofInt (M i j)))) := by unfold ent; rw [h]; rfl
theorem ent5 {G : Gx} {M : Mem} {i N : Nat} (h : kd i = (5, N)) : ent G M i = .inl (gcy G 4, N, .inr (.inr (.inr (.inr (fun j => if j < N then some (gad G (i + 1 + j)) else none))))) := by unfold ent; rw [h]; rfl
theorem ent6 {G : Gx} {M : Mem} {i N : Nat} (h : kd i = (6, N)) : ent G M i = .inl (gcy G 5, N, .inr (.inr (.inr (.inr (fun j => if M i j = 0 then none else some (gad G (160 + 18 * j))))))) := by unfold ent; rw [h]; rfl
theorem entO {G : Gx} {M : Mem} {i ci : Nat} (h : kd i = (10 + ci, 0)) : ent G M i = .inr (ci, flds G M i ci) := by
  unfold ent
  rw [h]
  have e : 10 + ci - 10 = ci := by omega
  simp only [e]
  rw [if_neg (by omega), if_neg (by omega), if_neg (by omega), if_neg (by omega), if_neg (by omega), if_neg (by omega)]
theorem flds_at {G : Gx} {M : Mem} {i ci k : Nat} {o : Option Nat} (h : (fspT.getD ci [])[k]? = some o) : (flds G M i ci)[k]? = some (fv G M i k o) := by
  unfold flds
  rw [List.getElem?_mapIdx, h]
  rfl
theorem fo {G : Gx} {i ci k off t N : Nat} (hG : GOK G) (hi : at_ G i (10 + ci) 0) (hf : (fspT.getD ci [])[k]? = some (some off)) (hk : ∀ i, i < 196 → kd i = (10 + ci, 0) → kd (i + off) = (t, N)) : at_ G (i + off) t N :=
  ⟨hG.2.1 i hi.1 ci k off hi.2 hf, hk i (kd_lt (t := 9 + ci) (by rw [hi.2]; congr 1; omega)) hi.2⟩
theorem sto {G : Gx} (hG : SOK G) {i t N : Nat} (hi : Nat.blt i 157 = true) (hk : kd i = (t, N)) : at_ G i t N := ⟨hG i (Nat.le_of_ble_eq_true hi), hk⟩
-- ===== numbers =====
theorem vi_toInt (x : Int32) : vi x.toInt = .int x := by unfold vi; rw [Int32.ofInt_toInt]
theorem w32_lt {a b : Int} : (Int32.ofInt a < Int32.ofInt b) ↔ w32 a < w32 b := Int32.lt_iff_toInt_lt
theorem w32_le {a b : Int} : (Int32.ofInt a ≤ Int32.ofInt b) ↔ w32 a ≤ w32 b := Int32.le_iff_toInt_le
theorem w32_eq {a b : Int} : (Int32.ofInt a = Int32.ofInt b) ↔ w32 a = w32 b := Int32.toInt_inj.symm
def i_c (a : Int) : Int := ((Int32.ofInt a).toUInt32 % 65536).toInt32.toInt
-- ===== the words of the pure functions =====
theorem gi_of {α : Type} {i : Int} {N : Nat} {K : Option α} {r : α} (h : gi i N K = some r) : inb i N ∧ K = some r := by
  unfold gi at h
  by_cases q : 0 ≤ w32 i ∧ w32 i < (N : Int)
  · rw [if_pos q] at h; exact ⟨q, h⟩
  · rw [if_neg q] at h; cases h
theorem gz_of {α : Type} {v : Int} {K : Option α} {r : α} (h : gz v K = some r) : (w32 v = 0 ∨ w32 v = 1) ∧ K = some r := by
  unfold gz at h
  by_cases q : w32 v = 0 ∨ w32 v = 1
  · rw [if_pos q] at h; exact ⟨q, h⟩
  · rw [if_neg q] at h; cases h
theorem gn_of {α : Type} {v : Int} {K : Option α} {r : α} (h : gn v K = some r) : ¬ w32 v = 0 ∧ K = some r := by
  unfold gn at h
  by_cases q : w32 v = 0
  · rw [if_pos q] at h; cases h
  · rw [if_neg q] at h; exact ⟨q, h⟩
theorem bnd_of {α β : Type} {x : α} {K : α → Option β} {r : β} (h : bnd x K = some r) : ∃ v, v = x ∧ K v = some r := ⟨x, rfl, h⟩
theorem cl1_of {α β : Type} {o : Option α} {K : α → Option β} {r : β} (h : cl1 o K = some r) : ∃ x, o = some x ∧ K x = some r := by
  cases o with
  | none => cases h
  | some x => exact ⟨x, rfl, h⟩
theorem cl2_of {α β γ : Type} {o : Option (α × β)} {K : α → β → Option γ} {r : γ} (h : cl2 o K = some r) : ∃ x y, o = some (x, y) ∧ K x y = some r := by
  cases o with
  | none => cases h
  | some z => obtain ⟨x, y⟩ := z; exact ⟨x, y, rfl, h⟩
theorem lp_use {σ ε ρ β : Type} {step : σ → Option (σ ⊕ (ε ⊕ ρ))} {P : σ → Prop} {PE : ε → Prop} {PR : ρ → Prop} {x : σ} {K : ε → Option β} {KR : ρ → Option β} {r : β}
    (h : lpb (wh step x) K KR = some r)
    (hb : ∀ x o, step x = some o → (∀ y, o = .inl y → P y) → (∀ z, o = .inr (.inl z) → PE z) → (∀ q, o = .inr (.inr q) → PR q) → P x)
    (hE : ∀ z, K z = some r → PE z) (hR : ∀ q, KR q = some r → PR q) : P x := by
  have key : ∀ n x o, itr step n x = some o → (∀ z, o = .inl z → PE z) → (∀ q, o = .inr q → PR q) → P x := by
    intro n
    induction n with
    | zero => intro x o h1; cases h1
    | succ n ih =>
      intro x o h1 he hr
      unfold itr at h1
      cases hs : step x with
      | none => rw [hs] at h1; cases h1
      | some z =>
        rw [hs] at h1
        refine hb x z hs ?_ ?_ ?_
        · intro y e; subst e; exact ih y o h1 he hr
        · intro y e; subst e; cases h1; exact he y rfl
        · intro y e; subst e; cases h1; exact hr y rfl
  cases hw : wh step x with
  | none => rw [hw] at h; cases h
  | some o =>
    rw [hw] at h
    obtain ⟨n, hn⟩ := wh_itr hw
    refine key n x o hn ?_ ?_
    · intro z e; subst e; exact hE z h
    · intro q e; subst e; exact hR q h
