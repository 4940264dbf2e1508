-- ===== how many ones a set of orders has, counted side by side =====
theorem and_nat {a b : Nat} (ha : a < 2147483648) (hb : b < 2147483648) : i_and (a : Int) (b : Int) = ((a &&& b : Nat) : Int) := by
  have a1 : NN ((a : Nat) : Int) := ⟨by omega, by omega⟩
  have a2 : NN ((b : Nat) : Int) := ⟨by omega, by omega⟩
  have le : a &&& b ≤ a := Nat.and_le_left
  have := and_bits a1 a2
  exact bit_ext this.1 ⟨by omega, by omega⟩ (fun k => by rw [this.2, bit_nat, bit_nat, bit_nat, Nat.testBit_and])
theorem ushr_nat {a k : Nat} (ha : a < 2147483648) (hs : ((Int32.ofInt (k : Int)).toUInt32 &&& Int32.toUInt32 31).toNat % 32 = k) : i_ushr (a : Int) (k : Int) = ((a / 2 ^ k : Nat) : Int) := by
  have e1 : (Int32.ofInt (a : Int)).toUInt32.toNat = a := by
    show (Int32.ofInt (a : Int)).toBitVec.toNat = a
    rw [nn_bv ⟨by omega, by omega⟩, BitVec.toNat_ofNat, Int.toNat_natCast]
    exact Nat.mod_eq_of_lt (by omega)
  have le : a / 2 ^ k ≤ a := Nat.div_le_self _ _
  unfold i_ushr
  show ((Int32.ofInt (a : Int)).toUInt32 >>> ((Int32.ofInt (k : Int)).toUInt32 &&& Int32.toUInt32 31)).toBitVec.toInt = _
  rw [BitVec.toInt_eq_toNat_bmod]
  show Int.bmod ((((Int32.ofInt (a : Int)).toUInt32 >>> ((Int32.ofInt (k : Int)).toUInt32 &&& Int32.toUInt32 31)).toNat : Nat) : Int) (2 ^ 32) = _
  rw [UInt32.toNat_shiftRight, e1, hs, Nat.shiftRight_eq_div_pow]
  exact bm32 (by omega)
theorem and_256 {a b c d : Nat} (ha : a < 256) (hc : c < 256) : (a + 256 * b) &&& (c + 256 * d) = (a &&& c) + 256 * (b &&& d) := by
  have h3 : a &&& c < 2 ^ 8 := Nat.lt_of_le_of_lt Nat.and_le_left ha
  have t : ∀ (u v j : Nat), u < 256 → (u + 256 * v).testBit j = if j < 8 then u.testBit j else v.testBit (j - 8) := fun u v j hu => by
    have := Nat.testBit_two_pow_mul_add v (b := u) (i := 8) hu j
    rw [show 2 ^ 8 * v + u = u + 256 * v by omega] at this
    exact this
  apply Nat.eq_of_testBit_eq
  intro j
  rw [Nat.testBit_and, t a b j ha, t c d j hc, t _ _ j h3]
  by_cases hj : j < 8
  · rw [if_pos hj, if_pos hj, if_pos hj, Nat.testBit_and]
  · rw [if_neg hj, if_neg hj, if_neg hj, Nat.testBit_and]
theorem and_16 {a b c k : Nat} (ha : a < 256) (hb : b < 256) (hc : c < 256) : (a + 256 * b) &&& (c + 256 * (c + 256 * k)) = (a &&& c) + 256 * (b &&& c) := by
  rw [and_256 ha hc]
  have := and_256 (a := b) (b := 0) (c := c) (d := k) hb hc
  rw [Nat.mul_zero, Nat.add_zero, Nat.zero_and, Nat.mul_zero, Nat.add_zero] at this
  rw [this]
def bP (a : Nat) : Nat := a - (a / 2 &&& 85)
def bQ (a : Nat) : Nat := (a &&& 51) + (a / 4 &&& 51)
theorem b1 : ∀ a, a < 256 → ∀ e, e < 2 → (a / 2 + 128 * e) &&& 85 = a / 2 &&& 85 := by decide +kernel
theorem b2 : ∀ a, a < 256 → ∀ e, e < 4 → (a / 4 + 64 * e) &&& 51 = a / 4 &&& 51 := by decide +kernel
theorem b3 : ∀ a, a < 256 → bQ (bP a) ≤ 68 ∧ bQ (bP a) % 16 ≤ 4 ∧ (bQ (bP a) + bQ (bP a) / 16) % 16 = pc 8 a ∧ pc 8 a ≤ 8 := by decide +kernel
theorem pc_split : ∀ n m x : Nat, pc (n + m) x = pc n x + pc m (x / 2 ^ n) := by
  intro n
  induction n with
  | zero => intro m x; simp [pc]
  | succ n ih =>
    intro m x
    rw [Nat.succ_add]
    simp only [pc]
    rw [ih, Nat.div_div_eq_div_mul, Nat.pow_succ, Nat.mul_comm 2]
    omega
theorem pc8 {a b : Nat} : pc 8 (a + 256 * b) = pc 8 a := by
  simp only [pc]
  omega
theorem bc16 {M : Mem} {m : Int} (h0 : 0 ≤ m) (h1 : m < 65536) : f_J6_bitCount_0f7a4 m M = some (one m) := by
  obtain ⟨x, rfl⟩ : ∃ x : Nat, m = (x : Int) := ⟨m.toNat, by omega⟩
  have e : one (x : Int) = ((pc 16 x : Nat) : Int) := (pc_sm 16 x).symm
  rw [e]
  obtain ⟨a, b, ha, hb, rfl⟩ : ∃ a b : Nat, a < 256 ∧ b < 256 ∧ x = a + 256 * b := ⟨x % 256, x / 256, by omega, by omega, by omega⟩
  have hpc : pc 16 (a + 256 * b) = pc 8 a + pc 8 b := by
    rw [show 16 = 8 + 8 from rfl, pc_split, pc8, show (a + 256 * b) / 2 ^ 8 = b by omega]
  obtain ⟨a1, a2, a3, a4⟩ := b3 a ha
  obtain ⟨c1, c2, c3, c4⟩ := b3 b hb
  have la : a / 2 &&& 85 ≤ a / 2 := Nat.and_le_left
  have lb : b / 2 &&& 85 ≤ b / 2 := Nat.and_le_left
  have pa : bP a ≤ a := Nat.sub_le _ _
  have pb : bP b ≤ b := Nat.sub_le _ _
  -- first step
  have s1 : ((a + 256 * b : Nat) : Int) - i_and (i_ushr ((a + 256 * b : Nat) : Int) 1) 1431655765 = ((bP a + 256 * bP b : Nat) : Int) := by
    have u : i_ushr ((a + 256 * b : Nat) : Int) 1 = (((a + 256 * b) / 2 ^ 1 : Nat) : Int) := ushr_nat (k := 1) (by omega) (by decide)
    have v : i_and (((a + 256 * b) / 2 ^ 1 : Nat) : Int) 1431655765 = (((a + 256 * b) / 2 ^ 1 &&& 1431655765 : Nat) : Int) := and_nat (b := 1431655765) (by omega) (by omega)
    rw [u, v]
    have w := and_16 (a := a / 2 + 128 * (b % 2)) (b := b / 2) (c := 85) (k := 21845) (by omega) (by omega) (by omega)
    rw [show a / 2 + 128 * (b % 2) + 256 * (b / 2) = (a + 256 * b) / 2 ^ 1 by omega, b1 a ha (b % 2) (by omega)] at w
    rw [show (1431655765 : Nat) = 85 + 256 * (85 + 256 * 21845) from rfl, w]
    unfold bP
    omega
  have s2 : i_and ((bP a + 256 * bP b : Nat) : Int) 858993459 + i_and (i_ushr ((bP a + 256 * bP b : Nat) : Int) 2) 858993459 = ((bQ (bP a) + 256 * bQ (bP b) : Nat) : Int) := by
    have u : i_ushr ((bP a + 256 * bP b : Nat) : Int) 2 = (((bP a + 256 * bP b) / 2 ^ 2 : Nat) : Int) := ushr_nat (k := 2) (by omega) (by decide)
    have v : i_and (((bP a + 256 * bP b) / 2 ^ 2 : Nat) : Int) 858993459 = (((bP a + 256 * bP b) / 2 ^ 2 &&& 858993459 : Nat) : Int) := and_nat (b := 858993459) (by omega) (by omega)
    have v' : i_and ((bP a + 256 * bP b : Nat) : Int) 858993459 = (((bP a + 256 * bP b) &&& 858993459 : Nat) : Int) := and_nat (b := 858993459) (by omega) (by omega)
    rw [u, v, v']
    have w := and_16 (a := bP a / 4 + 64 * (bP b % 4)) (b := bP b / 4) (c := 51) (k := 13107) (by omega) (by omega) (by omega)
    have w' := and_16 (a := bP a) (b := bP b) (c := 51) (k := 13107) (by omega) (by omega) (by omega)
    rw [show bP a / 4 + 64 * (bP b % 4) + 256 * (bP b / 4) = (bP a + 256 * bP b) / 2 ^ 2 by omega, b2 (bP a) (by omega) (bP b % 4) (by omega)] at w
    rw [show (858993459 : Nat) = 51 + 256 * (51 + 256 * 13107) from rfl, w, w']
    unfold bQ
    omega
  generalize bQ (bP a) = qa at *
  generalize bQ (bP b) = qb at *
  have s3 : i_and (((qa + 256 * qb : Nat) : Int) + i_ushr ((qa + 256 * qb : Nat) : Int) 4) 252645135 = ((pc 8 a + 256 * pc 8 b : Nat) : Int) := by
    have u : i_ushr ((qa + 256 * qb : Nat) : Int) 4 = (((qa + 256 * qb) / 2 ^ 4 : Nat) : Int) := ushr_nat (k := 4) (by omega) (by decide)
    rw [u, ← Int.natCast_add]
    have v : i_and (((qa + 256 * qb) + (qa + 256 * qb) / 2 ^ 4 : Nat) : Int) 252645135 = ((((qa + 256 * qb) + (qa + 256 * qb) / 2 ^ 4) &&& 252645135 : Nat) : Int) := and_nat (b := 252645135) (by omega) (by omega)
    rw [v]
    have w := and_16 (a := qa + qa / 16 + 16 * (qb % 16)) (b := qb + qb / 16) (c := 15) (k := 3855) (by omega) (by omega) (by omega)
    rw [show qa + qa / 16 + 16 * (qb % 16) + 256 * (qb + qb / 16) = (qa + 256 * qb) + (qa + 256 * qb) / 2 ^ 4 by omega] at w
    rw [show (252645135 : Nat) = 15 + 256 * (15 + 256 * 3855) from rfl, w]
    have m1 := Nat.and_two_pow_sub_one_eq_mod (qa + qa / 16 + 16 * (qb % 16)) 4
    have m2 := Nat.and_two_pow_sub_one_eq_mod (qb + qb / 16) 4
    simp only [Nat.reducePow, Nat.reduceSub] at m1 m2
    rw [m1, m2]
    omega
  generalize pc 8 a = ra at *
  generalize pc 8 b = rb at *
  have s4 : ((ra + 256 * rb : Nat) : Int) + i_ushr ((ra + 256 * rb : Nat) : Int) 8 = ((ra + 257 * rb : Nat) : Int) := by
    have u : i_ushr ((ra + 256 * rb : Nat) : Int) 8 = (((ra + 256 * rb) / 2 ^ 8 : Nat) : Int) := ushr_nat (k := 8) (by omega) (by decide)
    rw [u]
    omega
  have s5 : ((ra + 257 * rb : Nat) : Int) + i_ushr ((ra + 257 * rb : Nat) : Int) 16 = ((ra + 257 * rb : Nat) : Int) := by
    have u : i_ushr ((ra + 257 * rb : Nat) : Int) 16 = (((ra + 257 * rb) / 2 ^ 16 : Nat) : Int) := ushr_nat (k := 16) (by omega) (by decide)
    rw [u]
    omega
  have s6 : i_and ((ra + 257 * rb : Nat) : Int) 63 = ((ra + rb : Nat) : Int) := by
    have v : i_and ((ra + 257 * rb : Nat) : Int) 63 = (((ra + 257 * rb) &&& 63 : Nat) : Int) := and_nat (b := 63) (by omega) (by omega)
    have m1 := Nat.and_two_pow_sub_one_eq_mod (ra + 257 * rb) 6
    simp only [Nat.reducePow, Nat.reduceSub] at m1
    rw [v, m1]
    omega
  unfold f_J6_bitCount_0f7a4
  rw [bnd_eq, s1, bnd_eq, s2, bnd_eq, s3, bnd_eq, s4, bnd_eq, s5, s6, hpc]
