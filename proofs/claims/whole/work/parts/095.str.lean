-- ===== String constants: length and charAt =====
def m_strlen : Mth := (yJ0_length_8abf5, cJ0_length_8abf5, 1, some .int)
def m_strchr : Mth := (yJ0_charAt_5068e, cJ0_charAt_5068e, 2, some .char)
theorem k_strlen : MK m_strlen 0 := sorry
theorem v_strlen : MV m_strlen := sorry
theorem k_strchr : MK m_strchr 1 := sorry
theorem v_strchr : MV m_strchr := sorry
theorem c_strlen {l : Launch} {G : Gx} (hG : GOK G) (hl : l.stackTraces = false) {w : Nat} (h : Nat.blt w 12 = true) (M : Mem) : Cn l G m_strlen 2 [vs G w] M (some (vi (s_len w))) M := sorry
theorem c_strchr {l : Launch} {G : Gx} (hG : GOK G) (hl : l.stackTraces = false) {w : Nat} (h : Nat.blt w 12 = true) (k : Int) (hk : 0 ≤ w32 k ∧ w32 k < s_len w) (M : Mem) : Cn l G m_strchr 4 [vs G w, vi k] M (some (vi (s_chr w k))) M := sorry
