-- ===== loops, sums, bits =====
theorem wp_val {α : Type} {o : Option α} {v : α} (h : wp o (fun r => r = v)) : o = some v := by
  obtain ⟨a, e, rfl⟩ := h
  exact e
theorem wp_forI {σ ρ : Type} {step : σ → Option (σ ⊕ ρ)} (I : Nat → σ → Prop) {R : ρ → Prop} (n : Nat) (h : ∀ i x, i < n → I i x → wp (step x) (Sum.elim (fun y => I (i + 1) y) R)) (he : ∀ x, I n x → wp (step x) (Sum.elim (fun _ => False) R)) {i0 : Nat} (h0 : i0 ≤ n) {x : σ} (hx : I i0 x) : wp (wh step x) R := by
  have key : ∀ d i x, i + d = n → I i x → wp (wh step x) R := by
    intro d
    induction d with
    | zero =>
      intro i x hi hx
      rw [show i = n by omega] at hx
      refine wp_unroll (wp_use (he x hx) (fun a ha => ?_))
      cases a with
      | inl y => exact ha.elim
      | inr r => exact ha
    | succ d ih =>
      intro i x hi hx
      refine wp_unroll (wp_use (h i x (by omega) hx) (fun a ha => ?_))
      cases a with
      | inl y => exact ih (i + 1) y (by omega) ha
      | inr r => exact ha
  exact key (n - i0) i0 x (by omega) hx
/-- a loop that searches: left early at some round, or run to its end -/
def sm (g : Nat → Int) : Nat → Int
  | 0 => 0
  | n + 1 => sm g n + g n
def om (g : Nat → Int) : Nat → Int
  | 0 => 0
  | n + 1 => i_or (om g n) (g n)
theorem sm_congr {f g : Nat → Int} {n : Nat} (h : ∀ i, i < n → f i = g i) : sm f n = sm g n := by
  induction n with
  | zero => rfl
  | succ n ih => simp only [sm]; rw [ih (fun i hi => h i (by omega)), h n (by omega)]
theorem om_congr {f g : Nat → Int} {n : Nat} (h : ∀ i, i < n → f i = g i) : om f n = om g n := by
  induction n with
  | zero => rfl
  | succ n ih => simp only [om]; rw [ih (fun i hi => h i (by omega)), h n (by omega)]
theorem sm_more {g : Nat → Int} {n m : Nat} (hm : n ≤ m) (h : ∀ i, n ≤ i → i < m → g i = 0) : sm g m = sm g n := by
  induction m with
  | zero => rw [show n = 0 by omega]
  | succ m ih =>
    by_cases e : n = m + 1
    · rw [e]
    · simp only [sm]
      rw [ih (by omega) (fun i a b => h i a (by omega)), h m (by omega) (by omega)]
      omega
theorem sm_bd {g : Nat → Int} {n : Nat} {B : Int} (hB : 0 ≤ B) (h : ∀ i, i < n → 0 ≤ g i ∧ g i ≤ B) : 0 ≤ sm g n ∧ sm g n ≤ B * n := by
  induction n with
  | zero => simp [sm]
  | succ n ih =>
    have a := ih (fun i hi => h i (by omega))
    have b := h n (by omega)
    simp only [sm]
    rw [show B * ((n + 1 : Nat) : Int) = B * n + B by rw [Int.natCast_succ, Int.mul_add, Int.mul_one]]
    omega
-- bits: numbers that fit, by the places of their ones
def NN (a : Int) : Prop := 0 ≤ a ∧ a < 2147483648
theorem nn_bv {a : Int} (h : NN a) : (Int32.ofInt a).toBitVec = BitVec.ofNat 32 a.toNat := by
  apply BitVec.eq_of_toNat_eq
  rw [Int32.toBitVec_ofInt, BitVec.toNat_ofInt, BitVec.toNat_ofNat]
  unfold NN at h
  omega
theorem bit_of {a : Int} (h : NN a) (k : Nat) : bit a k = (Int32.ofInt a).toBitVec.getLsbD k := by
  rw [nn_bv h, BitVec.getLsbD_ofNat]
  unfold bit
  by_cases hk : k < 32
  · simp [hk]
  · have : a.toNat.testBit k = false := Nat.testBit_lt_two_pow (by
      have h1 : a.toNat < 2 ^ 32 := by unfold NN at h; omega
      exact Nat.lt_of_lt_of_le h1 (Nat.pow_le_pow_right (by decide) (by omega)))
    simp [hk, this]
theorem nn_msb {x : Int32} : 0 ≤ x.toInt ↔ x.toBitVec.getLsbD 31 = false := by
  have e : x.toInt = x.toBitVec.toInt := rfl
  rw [e, BitVec.toInt_eq_toNat_cond]
  have h2 := x.toBitVec.isLt
  have h3 : x.toBitVec.getLsbD 31 = x.toBitVec.msb := by rw [BitVec.msb_eq_getLsbD_last]
  rw [h3, BitVec.msb_eq_decide]
  simp only [decide_eq_false_iff_not]
  split <;> omega
theorem bit_toInt {x : Int32} (h : x.toBitVec.getLsbD 31 = false) (k : Nat) : bit x.toInt k = x.toBitVec.getLsbD k := by
  have h0 := nn_msb.mpr h
  have h1 : NN x.toInt := ⟨h0, by have := x.toInt_lt; omega⟩
  rw [bit_of h1, Int32.ofInt_toInt]
theorem nn_toInt {x : Int32} (h : x.toBitVec.getLsbD 31 = false) : NN x.toInt := ⟨nn_msb.mpr h, by have := x.toInt_lt; omega⟩
theorem bit31 {a : Int} (h : NN a) : (Int32.ofInt a).toBitVec.getLsbD 31 = false := by
  have : (Int32.ofInt a).toInt = a := w32_ok ⟨by unfold NN at h; omega, h.2⟩
  exact nn_msb.mp (by rw [this]; exact h.1)
theorem or_bits {a b : Int} (ha : NN a) (hb : NN b) : NN (i_or a b) ∧ ∀ k, bit (i_or a b) k = (bit a k || bit b k) := by
  have h : ((Int32.ofInt a) ||| (Int32.ofInt b)).toBitVec.getLsbD 31 = false := by
    rw [Int32.toBitVec_or, BitVec.getLsbD_or, bit31 ha, bit31 hb]
    rfl
  unfold i_or
  refine ⟨nn_toInt h, fun k => ?_⟩
  rw [bit_toInt h, Int32.toBitVec_or, BitVec.getLsbD_or, bit_of ha, bit_of hb]
theorem and_bits {a b : Int} (ha : NN a) (hb : NN b) : NN (i_and a b) ∧ ∀ k, bit (i_and a b) k = (bit a k && bit b k) := by
  have h : ((Int32.ofInt a) &&& (Int32.ofInt b)).toBitVec.getLsbD 31 = false := by
    rw [Int32.toBitVec_and, BitVec.getLsbD_and, bit31 ha]
    rfl
  unfold i_and
  refine ⟨nn_toInt h, fun k => ?_⟩
  rw [bit_toInt h, Int32.toBitVec_and, BitVec.getLsbD_and, bit_of ha, bit_of hb]
/-- a without b -/
theorem andn_bits {a b : Int} (ha : NN a) (hb : NN b) : NN (i_and a (i_xor b (-1))) ∧ ∀ k, bit (i_and a (i_xor b (-1))) k = (bit a k && !bit b k) := by
  have e : Int32.ofInt (i_xor b (-1)) = Int32.ofInt b ^^^ Int32.ofInt (-1) := by unfold i_xor; rw [Int32.ofInt_toInt]
  have e2 : (Int32.ofInt (-1)).toBitVec = BitVec.allOnes 32 := by decide
  have h : ((Int32.ofInt a) &&& (Int32.ofInt (i_xor b (-1)))).toBitVec.getLsbD 31 = false := by
    rw [Int32.toBitVec_and, BitVec.getLsbD_and, bit31 ha]
    rfl
  unfold i_and
  refine ⟨nn_toInt h, fun k => ?_⟩
  rw [bit_toInt h, Int32.toBitVec_and, BitVec.getLsbD_and, e, Int32.toBitVec_xor, BitVec.getLsbD_xor, e2, BitVec.getLsbD_allOnes, ← bit_of ha, ← bit_of hb]
  by_cases hk : k < 32
  · simp [hk]
  · have : bit a k = false := by rw [bit_of ha]; exact BitVec.getLsbD_of_ge _ _ (by omega)
    simp [this]
theorem bit_ge {a : Int} (h : NN a) {k : Nat} (hk : 31 ≤ k) : bit a k = false := by
  rw [bit_of h]
  by_cases e : k = 31
  · rw [e]; exact bit31 h
  · exact BitVec.getLsbD_of_ge _ _ (by omega)
theorem bit_ext {a b : Int} (ha : NN a) (hb : NN b) (h : ∀ k, bit a k = bit b k) : a = b := by
  have : a.toNat = b.toNat := Nat.eq_of_testBit_eq h
  unfold NN at ha hb
  omega
theorem bit_zero (k : Nat) : bit 0 k = false := by unfold bit; simp
theorem bit_eq0 {a : Int} (ha : NN a) (h : ∀ k, bit a k = false) : a = 0 := bit_ext ha ⟨by omega, by omega⟩ (fun k => by rw [h, bit_zero])
theorem shl_lt : ∀ o : Nat, o < 31 → i_shl 1 (o : Int) = ((2 ^ o : Nat) : Int) := by decide
theorem shl_bits {o : Nat} (h : o < 31) : NN (i_shl 1 (o : Int)) ∧ ∀ k, bit (i_shl 1 (o : Int)) k = decide (k = o) := by
  rw [shl_lt o h]
  have : 2 ^ o < 2 ^ 31 := Nat.pow_lt_pow_right (by decide) h
  refine ⟨⟨Int.natCast_nonneg _, Int.ofNat_lt.mpr this⟩, fun k => ?_⟩
  unfold bit
  rw [Int.toNat_natCast, Nat.testBit_two_pow]
  by_cases e : k = o
  · simp [e]
  · simp [e, Ne.symm e]
theorem bit_lt {a : Int} {n : Nat} (ha : NN a) (hn : n ≤ 31) (h : ∀ k, n ≤ k → bit a k = false) : a < ((2 ^ n : Nat) : Int) := by
  have : a.toNat < 2 ^ n := Nat.lt_pow_two_of_testBit _ h
  unfold NN at ha
  omega
theorem bit_hi {a : Int} {n : Nat} (h0 : 0 ≤ a) (h1 : a < ((2 ^ n : Nat) : Int)) {k : Nat} (hk : n ≤ k) : bit a k = false := by
  unfold bit
  exact Nat.testBit_lt_two_pow (Nat.lt_of_lt_of_le (by omega) (Nat.pow_le_pow_right (by decide) hk))
/-- the test of one bit -/
theorem has_bit {m : Int} {o : Nat} (hm : NN m) (ho : o < 31) : i_and (i_shr m (o : Int)) 1 = if bit m o then 1 else 0 := by
  have e0 : ∀ o : Nat, o < 31 → (Int32.ofInt (o : Int) &&& 31).toBitVec.smod 32 = BitVec.ofNat 32 o := by decide
  have q : (Int32.ofInt m >>> (Int32.ofInt (o : Int) &&& 31)).toBitVec = (Int32.ofInt m).toBitVec.sshiftRight o := by
    rw [Int32.toBitVec_shiftRight, e0 o ho, BitVec.sshiftRight_eq', BitVec.toNat_ofNat, Nat.mod_eq_of_lt (by omega)]
  have ms : (Int32.ofInt m).toBitVec.msb = false := by rw [BitVec.msb_eq_getLsbD_last]; exact bit31 hm
  have g : ∀ k, (Int32.ofInt m >>> (Int32.ofInt (o : Int) &&& 31)).toBitVec.getLsbD k = bit m (o + k) := by
    intro k
    rw [q, BitVec.sshiftRight_eq_of_msb_false ms, BitVec.getLsbD_ushiftRight, bit_of hm]
  have g31 : (Int32.ofInt m >>> (Int32.ofInt (o : Int) &&& 31)).toBitVec.getLsbD 31 = false := by rw [g]; exact bit_ge hm (by omega)
  have n1 : NN 1 := ⟨by omega, by omega⟩
  have b1 : ∀ k, bit 1 k = decide (k = 0) := fun k => by
    unfold bit
    rw [show (1 : Int).toNat = 2 ^ 0 from rfl, Nat.testBit_two_pow]
    by_cases e : k = 0
    · simp [e]
    · simp [e, Ne.symm e]
  have n2 : NN (i_shr m (o : Int)) := nn_toInt g31
  have a := and_bits n2 n1
  refine bit_ext a.1 (by split <;> exact ⟨by omega, by omega⟩) (fun k => ?_)
  rw [a.2, b1]
  by_cases e : k = 0
  · subst e
    have : bit (i_shr m (o : Int)) 0 = bit m o := (bit_toInt g31 0).trans (g 0)
    rw [this]
    cases bit m o <;> simp [bit_zero, b1]
  · cases bit m o <;> simp [bit_zero, b1, e]
theorem has_bit0 {m : Int} {o : Nat} (hm : NN m) (ho : o < 31) : i_and (i_shr m (o : Int)) 1 = 0 ↔ bit m o = false := by
  rw [has_bit hm ho]
  cases bit m o <;> simp
theorem wp_has {m : Int} {o : Nat} {M : Mem} (hm : NN m) (ho : o < 31) : f_X12_has m (o : Int) M = some (if bit m o then 1 else 0) := by
  unfold f_X12_has
  rw [w32_and, has_bit hm ho]
  cases bit m o <;> simp
