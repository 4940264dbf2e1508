-- ===== the words and the pure functions (hoisted out of the machine parts by wip/gen/hoist.py) =====
abbrev Mem : Type := Nat → Nat → Int
def upd2 (M : Mem) (a i : Nat) (v : Int) : Mem := fun b => if b = a then (fun j => if j = i then v else M b j) else M b
def w32 (v : Int) : Int := (Int32.ofInt v).toInt
def ix (v : Int) : Nat := (Int32.ofInt v).toNatClampNeg
def inb (v : Int) (N : Nat) : Prop := 0 ≤ w32 v ∧ w32 v < (N : Int)
def strT : List (String × Nat × String) := [("PickHall$SetupReader", 54, "hall"), ("PickHall$SetupReader", 81, "item"), ("PickHall$SetupReader", 86, "order"), ("PickHall$SetupReader", 140, "line"), ("PickHall$SetupReader", 91, "zones"), ("PickHall$SetupReader", 96, "buffer"), ("PickHall$SetupReader", 101, "times"), ("PickHall$SetupReader", 106, "policy"), ("PickHall$SetupReader", 166, "return"), ("PickHall$SetupReader", 170, "sshape"), ("PickHall$SetupReader", 172, "gap"), ("PickHall$SetupReader", 174, "combined"), ("PickHall", 353, "an argument is out of range"), ("PickHall", 74, "there are items"), ("PickHall", 357, "there is no such number"), ("PickHall", 102, "there are 24 items"), ("PickHall", 363, "there are 16 orders"), ("PickHall", 140, "the order takes no such line"), ("PickHall", 361, "the order is done or cancelled"), ("PickHall", 180, "no order, or an order that does not exist"), ("PickHall", 187, "these orders can't be a batch now"), ("PickHall", 210, "there are more than 6 batches"), ("PickHall", 290, "the order is not batched"), ("PickHall", 302, "there are no batches"), ("PickHall", 325, "there is nothing to order again"), ("PickHall", 333, "the text would be longer than 600 bytes"), ("PickHall", 351, "nothing is saved there")]
def bytS : List (List Int32) := strT.map (fun q => q.2.2.toList.map (fun ch => Int32.ofNat ch.toNat))
def lenS : List Nat := bytS.map (fun q => q.length)
theorem upd2_ne {M : Mem} {a i b : Nat} {v : Int} (h : b ≠ a) : upd2 M a i v b = M b := by unfold upd2; rw [if_neg h]
theorem upd2_at (M : Mem) (a i : Nat) (v : Int) (j : Nat) : upd2 M a i v a j = if j = i then v else M a j := by unfold upd2; rw [if_pos rfl]
def i_and (a b : Int) : Int := (Int32.ofInt a &&& Int32.ofInt b).toInt
def i_or (a b : Int) : Int := (Int32.ofInt a ||| Int32.ofInt b).toInt
def i_xor (a b : Int) : Int := (Int32.ofInt a ^^^ Int32.ofInt b).toInt
def i_shl (a b : Int) : Int := (Int32.ofInt a <<< (Int32.ofInt b &&& 31)).toInt
def i_shr (a b : Int) : Int := (Int32.ofInt a >>> (Int32.ofInt b &&& 31)).toInt
def i_ushr (a b : Int) : Int := ((Int32.ofInt a).toUInt32 >>> ((Int32.ofInt b).toUInt32 &&& Int32.toUInt32 31)).toInt32.toInt
def i_div (a b : Int) : Int := (Int32.ofInt a / Int32.ofInt b).toInt
def i_rem (a b : Int) : Int := (Int32.ofInt a - Int32.ofInt a / Int32.ofInt b * Int32.ofInt b).toInt
def i_b (a : Int) : Int := (Int32.ofInt a).toInt8.toInt32.toInt
def i_z (a : Int) : Int := (vp_nar .boolean (Int32.ofInt a)).toInt
def i_y (a : Int) : Int := (vp_nar .byte (Int32.ofInt a)).toInt
def gi {α : Type} (i : Int) (N : Nat) (K : Option α) : Option α := if 0 ≤ w32 i ∧ w32 i < (N : Int) then K else none
def gz {α : Type} (v : Int) (K : Option α) : Option α := if w32 v = 0 ∨ w32 v = 1 then K else none
def gn {α : Type} (v : Int) (K : Option α) : Option α := if w32 v = 0 then none else K
def bnd {α β : Type} (x : α) (K : α → Option β) : Option β := K x
def cl1 {α β : Type} (o : Option α) (K : α → Option β) : Option β := match o with
  | none => none
  | some x => K x
def cl2 {α β γ : Type} (o : Option (α × β)) (K : α → β → Option γ) : Option γ := match o with
  | none => none
  | some (x, y) => K x y
/-- a loop: a step goes on with a new state, leaves, or answers for the whole method -/
def itr {σ ρ : Type} (step : σ → Option (σ ⊕ ρ)) : Nat → σ → Option ρ
  | 0, _ => none
  | n + 1, x => match step x with
    | none => none
    | some (.inl y) => itr step n y
    | some (.inr r) => some r
theorem itr_mono {σ ρ : Type} {step : σ → Option (σ ⊕ ρ)} : ∀ (n : Nat) (x : σ) (r : ρ), itr step n x = some r → ∀ m, n ≤ m → itr step m x = some r := by
  intro n
  induction n with
  | zero => intro x r h; cases h
  | succ n ih =>
    intro x r h m hm
    obtain ⟨m, rfl⟩ : ∃ q, m = q + 1 := ⟨m - 1, by omega⟩
    unfold itr at h ⊢
    cases hs : step x with
    | none => rw [hs] at h; cases h
    | some o =>
      rw [hs] at h
      cases o with
      | inl y => exact ih y r h m (by omega)
      | inr q => exact h
noncomputable def wh {σ ρ : Type} (step : σ → Option (σ ⊕ ρ)) (x : σ) : Option ρ := match Classical.propDecidable (∃ n, (itr step n x).isSome = true) with
  | .isTrue h => itr step (Classical.choose h) x
  | .isFalse _ => none
theorem wh_itr {σ ρ : Type} {step : σ → Option (σ ⊕ ρ)} {x : σ} {r : ρ} (h : wh step x = some r) : ∃ n, itr step n x = some r := by
  unfold wh at h
  split at h
  · exact ⟨_, h⟩
  · cases h
theorem wh_of {σ ρ : Type} {step : σ → Option (σ ⊕ ρ)} {x : σ} {r : ρ} {n : Nat} (h : itr step n x = some r) : wh step x = some r := by
  unfold wh
  split
  · rename_i q _
    have h1 := Classical.choose_spec q
    obtain ⟨r', h2⟩ := Option.isSome_iff_exists.mp h1
    rw [h2]
    have a := itr_mono _ _ _ h2 (Classical.choose q + n) (by omega)
    have b := itr_mono _ _ _ h (Classical.choose q + n) (by omega)
    exact a.symm.trans b
  · rename_i q _
    exact absurd ⟨n, by rw [h]; rfl⟩ q
/-- one step of a loop -/
theorem wh_step {σ ρ : Type} {step : σ → Option (σ ⊕ ρ)} {x y : σ} (h : step x = some (.inl y)) : wh step x = wh step y := by
  cases hq : wh step y with
  | some r =>
    obtain ⟨n, hn⟩ := wh_itr hq
    exact wh_of (n := n + 1) (by unfold itr; rw [h]; exact hn)
  | none =>
    cases hp : wh step x with
    | none => rfl
    | some r =>
      obtain ⟨n, hn⟩ := wh_itr hp
      cases n with
      | zero => cases hn
      | succ n =>
        unfold itr at hn
        rw [h] at hn
        rw [wh_of hn] at hq
        cases hq
theorem wh_stop {σ ρ : Type} {step : σ → Option (σ ⊕ ρ)} {x : σ} {r : ρ} (h : step x = some (.inr r)) : wh step x = some r := wh_of (n := 1) (by unfold itr; rw [h])
/-- behind a loop: left, or answered -/
def lpb {ε ρ β : Type} (o : Option (ε ⊕ ρ)) (K : ε → Option β) (KR : ρ → Option β) : Option β := match o with
  | none => none
  | some (.inl z) => K z
  | some (.inr r) => KR r
theorem ix_eq (i : Int) : ix i = (w32 i).toNat := rfl
def l_cmp (a b : Int) : Int := (lg_cmp (Int64.ofInt a) (Int64.ofInt b)).toInt
def i_max (a b : Int) : Int := if w32 a < w32 b then b else a
def i_min (a b : Int) : Int := if w32 b < w32 a then b else a
def cpy2 (M : Mem) (a b n : Nat) : Mem := fun c => if c = b then (fun j => if j < n then M a j else M b j) else M c
def s_len (w : Nat) : Int := ((lenS.getD w 0 : Nat) : Int)
def s_chr (w : Nat) (k : Int) : Int := (((bytS.getD w []).getD (ix k) 0) &&& 255).toInt
def gs {α : Type} (w : Nat) (k : Int) (K : Option α) : Option α := if 0 ≤ w32 k ∧ w32 k < s_len w then K else none
def cx1 {α β : Type} (o : Option (Nat ⊕ α)) (T : Nat → Option β) (K : α → Option β) : Option β := match o with
  | none => none
  | some (.inl e) => T e
  | some (.inr r) => K r
def cx2 {α β : Type} (o : Option ((Nat ⊕ α) × Mem)) (T : Nat → Mem → Option β) (K : α → Mem → Option β) : Option β := match o with
  | none => none
  | some (.inl e, M) => T e M
  | some (.inr r, M) => K r M
noncomputable def f_X11_aisleCount  (M : Mem) : Option (Int) :=
  some (M 2 0)
noncomputable def f_X11_itemCount  (M : Mem) : Option (Int) :=
  some (M 5 0)
noncomputable def f_X11_orderCount  (M : Mem) : Option (Int) :=
  some (M 10 0)
noncomputable def f_X11_batchCount  (M : Mem) : Option (Int) :=
  some (M 17 0)
noncomputable def f_X11_errorCode  (M : Mem) : Option (Int) :=
  some (M 38 2)
noncomputable def f_X11_errorPosition  (M : Mem) : Option (Int) :=
  some (M 38 3)
noncomputable def j_X11_needArgument_10   (M : Mem) : Option ((Nat ⊕ Unit)) :=
  some (.inl 2)
noncomputable def f_X11_needArgument  (x0 : Int) (x1 : Int) (x2 : Int) (M : Mem) : Option ((Nat ⊕ Unit)) :=
  (if w32 x0 < w32 x1 then j_X11_needArgument_10 M else (if w32 x2 < w32 x0 then j_X11_needArgument_10 M else some (.inr ())))
noncomputable def j_X11_needIndex_9   (M : Mem) : Option ((Nat ⊕ Unit)) :=
  some (.inl 3)
noncomputable def f_X11_needIndex  (x0 : Int) (x1 : Int) (M : Mem) : Option ((Nat ⊕ Unit)) :=
  (if w32 x0 < 0 then j_X11_needIndex_9 M else (if w32 x0 < w32 x1 then some (.inr ()) else j_X11_needIndex_9 M))
noncomputable def j_X11_needUnfinished_32   (M : Mem) : Option ((Nat ⊕ Unit)) :=
  some (.inl 1)
noncomputable def f_X11_needUnfinished  (x1 : Int) (M : Mem) : Option ((Nat ⊕ Unit)) :=
  gi x1 16 ((if w32 (M 12 (ix x1)) = 2 then j_X11_needUnfinished_32 M else gi x1 16 ((if w32 (M 12 (ix x1)) = 3 then j_X11_needUnfinished_32 M else some (.inr ())))))
noncomputable def f_X11_needRoomForOrder  (M : Mem) : Option ((Nat ⊕ Unit)) :=
  (if w32 (M 10 0) < 16 then some (.inr ()) else some (.inl 1))
noncomputable def s_X11_commonDivisor_7  (M : Mem) (x2 : Int) (x3 : Int) (x4 : Int) : Option ((Int × Int × Int) ⊕ ((Int) ⊕ (Int))) :=
  (if w32 x4 < 64 then (if 0 < w32 x3 then gn x3 (bnd (i_rem x2 x3) (fun x5_2 => bnd (x4 + 1) (fun x4_3 => some (.inl (x3, x5_2, x4_3))))) else some (.inr (.inl x2))) else some (.inr (.inl x2)))
noncomputable def j_X11_commonDivisor_34   (x2 : Int) (M : Mem) : Option (Int) :=
  some (i_max 1 x2)
noncomputable def f_X11_commonDivisor  (x0 : Int) (x1 : Int) (M : Mem) : Option (Int) :=
  lpb (wh (fun x => s_X11_commonDivisor_7 M x.1 x.2.1 x.2.2) (x0, x1, 0)) (fun z_4 => j_X11_commonDivisor_34 z_4 M) (fun q => some q)
noncomputable def f_X0_append (th : Nat) (x1 : Int) (M : Mem) : Option (Int × Mem) :=
  bnd (M th 0) (fun x2_1 => gi x2_1 8 (bnd (upd2 M (th + 1) (ix x2_1) x1) (fun M_2 => bnd (upd2 M_2 th 0 ((M_2 th 0) + 1)) (fun M_4 => some (x2_1, M_4)))))
noncomputable def s_X0_drop_4 (th : Nat) (x2 : Int) (M : Mem) : Option ((Int × Mem) ⊕ ((Mem) ⊕ (Mem))) :=
  (if w32 x2 < w32 (M th 0) then gi x2 8 (gi (x2 - 1) 8 (bnd (upd2 M (th + 1) (ix (x2 - 1)) (M (th + 1) (ix x2))) (fun M_3 => bnd (x2 + 1) (fun x2_5 => some (.inl (x2_5, M_3)))))) else some (.inr (.inl M)))
noncomputable def f_X0_drop (th : Nat) (x1 : Int) (M : Mem) : Option (Mem) :=
  bnd (x1 + 1) (fun x2_1 => lpb (wh (fun x => s_X0_drop_4 th x.1 x.2) (x2_1, M)) (fun z_6 => bnd (upd2 z_6 th 0 ((z_6 th 0) - 1)) (fun M_7 => some M_7)) (fun q => some q))
noncomputable def s_X0_batchWith_2 (th : Nat) (x1 : Int) (M : Mem) (x2 : Int) : Option ((Int) ⊕ ((Unit) ⊕ (Int))) :=
  (if w32 x2 < w32 (M th 0) then gi x2 8 ((if w32 (i_and (i_shr (M (th + 1) (ix x2)) x1) 1) = 0 then bnd (x2 + 1) (fun x2_2 => some (.inl x2_2)) else some (.inr (.inr x2)))) else some (.inr (.inl ())))
noncomputable def f_X0_batchWith (th : Nat) (x1 : Int) (M : Mem) : Option (Int) :=
  lpb (wh (fun x => s_X0_batchWith_2 th x1 M x) 0) (fun z_3 => some (-1)) (fun q => some q)
noncomputable def f_X0_copyFrom (th : Nat) (a1 : Nat) (M : Mem) : Option (Mem) :=
  bnd (upd2 M th 0 (M a1 0)) (fun M_1 => bnd (cpy2 M_1 (a1 + 1) (th + 1) 8) (fun M_2 => some M_2))
noncomputable def s_X1_weightOf_4 (th : Nat) (x1 : Int) (M : Mem) (x2 : Int) (x3 : Int) : Option ((Int × Int) ⊕ ((Int) ⊕ (Int))) :=
  gi x1 16 ((if w32 x3 < w32 (M (th + 9 + 3) (ix x1)) then bnd ((x1 * 6) + x3) (fun x4_2 => gi x4_2 96 (gi x4_2 96 (gi (M (th + 9 + 4) (ix x4_2)) 24 (bnd (x2 + ((M (th + 9 + 5) (ix x4_2)) * (M (th + 4 + 3) (ix (M (th + 9 + 4) (ix x4_2)))))) (fun x2_6 => bnd (x3 + 1) (fun x3_7 => some (.inl (x2_6, x3_7)))))))) else some (.inr (.inl x2))))
noncomputable def f_X1_weightOf (th : Nat) (x1 : Int) (M : Mem) : Option (Int) :=
  lpb (wh (fun x => s_X1_weightOf_4 th x1 M x.1 x.2) (0, 0)) (fun z_8 => some z_8) (fun q => some q)
noncomputable def s_X1_aislesOf_4 (th : Nat) (x1 : Int) (M : Mem) (x2 : Int) (x3 : Int) : Option ((Int × Int) ⊕ ((Int) ⊕ (Int))) :=
  gi x1 16 ((if w32 x3 < w32 (M (th + 9 + 3) (ix x1)) then gi ((x1 * 6) + x3) 96 (gi (M (th + 9 + 4) (ix ((x1 * 6) + x3))) 24 (bnd (i_or x2 (i_shl 1 (M (th + 4 + 1) (ix (M (th + 9 + 4) (ix ((x1 * 6) + x3))))))) (fun x2_4 => bnd (x3 + 1) (fun x3_5 => some (.inl (x2_4, x3_5)))))) else some (.inr (.inl x2))))
noncomputable def f_X1_aislesOf (th : Nat) (x1 : Int) (M : Mem) : Option (Int) :=
  lpb (wh (fun x => s_X1_aislesOf_4 th x1 M x.1 x.2) (0, 0)) (fun z_6 => some z_6) (fun q => some q)
noncomputable def j_X1_itemsOfAll_66_4 (th : Nat)  (x1 : Int) (x2 : Int) (x3 : Int) (M : Mem) : Option ((Int × Int) ⊕ ((Int) ⊕ (Int))) :=
  bnd (x3 + 1) (fun x3_1 => some (.inl (x2, x3_1)))
noncomputable def s_X1_itemsOfAll_26 (th : Nat) (x1 : Int) (x3 : Int) (M : Mem) (x2 : Int) (x4 : Int) : Option ((Int × Int) ⊕ ((Int) ⊕ (Int))) :=
  gi x3 16 ((if w32 x4 < w32 (M (th + 9 + 3) (ix x3)) then gi ((x3 * 6) + x4) 96 (bnd (i_or x2 (i_shl 1 (M (th + 9 + 4) (ix ((x3 * 6) + x4))))) (fun x2_4 => bnd (x4 + 1) (fun x4_5 => some (.inl (x2_4, x4_5))))) else some (.inr (.inl x2))))
noncomputable def s_X1_itemsOfAll_4 (th : Nat) (x1 : Int) (M : Mem) (x2 : Int) (x3 : Int) : Option ((Int × Int) ⊕ ((Int) ⊕ (Int))) :=
  (if w32 x3 < w32 (M (th + 9) 0) then (if w32 (i_and (i_shr x1 x3) 1) = 0 then j_X1_itemsOfAll_66_4 th x1 x2 x3 M else lpb (wh (fun x => s_X1_itemsOfAll_26 th x1 x3 M x.1 x.2) (x2, 0)) (fun z_6 => j_X1_itemsOfAll_66_4 th x1 z_6 x3 M) (fun q => some (.inr (.inr q)))) else some (.inr (.inl x2)))
noncomputable def f_X1_itemsOfAll (th : Nat) (x1 : Int) (M : Mem) : Option (Int) :=
  lpb (wh (fun x => s_X1_itemsOfAll_4 th x1 M x.1 x.2) (0, 0)) (fun z_7 => some z_7) (fun q => some q)
noncomputable def j_X1_canBeBatched_57_2 (th : Nat)  (x1 : Int) (x2 : Int) (M : Mem) : Option ((Int) ⊕ ((Unit) ⊕ (Int))) :=
  bnd (x2 + 1) (fun x2_3 => some (.inl x2_3))
noncomputable def j_X1_canBeBatched_42_2 (th : Nat)  (x1 : Int) (x2 : Int) (y0 : Int) (M : Mem) : Option ((Int) ⊕ ((Unit) ⊕ (Int))) :=
  (if w32 (i_and (i_shr x1 x2) 1) = 0 then j_X1_canBeBatched_57_2 th x1 x2 M else (if w32 y0 = 0 then some (.inr (.inr 0)) else j_X1_canBeBatched_57_2 th x1 x2 M))
noncomputable def j_X1_canBeBatched_41_2 (th : Nat)  (x1 : Int) (x2 : Int) (M : Mem) : Option ((Int) ⊕ ((Unit) ⊕ (Int))) :=
  j_X1_canBeBatched_42_2 th x1 x2 0 M
noncomputable def s_X1_canBeBatched_2 (th : Nat) (x1 : Int) (M : Mem) (x2 : Int) : Option ((Int) ⊕ ((Unit) ⊕ (Int))) :=
  (if w32 x2 < w32 (M (th + 9) 0) then gi x2 16 ((if w32 (M (th + 9 + 2) (ix x2)) = 0 then gi x2 16 ((if 0 < w32 (M (th + 9 + 3) (ix x2)) then j_X1_canBeBatched_42_2 th x1 x2 1 M else j_X1_canBeBatched_41_2 th x1 x2 M)) else j_X1_canBeBatched_41_2 th x1 x2 M)) else some (.inr (.inl ())))
noncomputable def f_X1_canBeBatched (th : Nat) (x1 : Int) (M : Mem) : Option (Int) :=
  lpb (wh (fun x => s_X1_canBeBatched_2 th x1 M x) 0) (fun z_4 => some 1) (fun q => some q)
noncomputable def j_X1_earliestDue_47_6 (th : Nat)  (x1 : Int) (x2 : Int) (x3 : Int) (M : Mem) : Option ((Int × Int) ⊕ ((Int) ⊕ (Int))) :=
  bnd (x3 + 1) (fun x3_2 => some (.inl (x2, x3_2)))
noncomputable def s_X1_earliestDue_6 (th : Nat) (x1 : Int) (M : Mem) (x2 : Int) (x3 : Int) : Option ((Int × Int) ⊕ ((Int) ⊕ (Int))) :=
  (if w32 x3 < w32 (M (th + 9) 0) then gi x1 8 ((if w32 (i_and (i_shr (M (th + 16 + 1) (ix x1)) x3) 1) = 0 then j_X1_earliestDue_47_6 th x1 x2 x3 M else gi x3 16 (bnd (i_min x2 (M (th + 9 + 1) (ix x3))) (fun x2_4 => j_X1_earliestDue_47_6 th x1 x2_4 x3 M)))) else some (.inr (.inl x2)))
noncomputable def f_X1_earliestDue (th : Nat) (x1 : Int) (M : Mem) : Option (Int) :=
  lpb (wh (fun x => s_X1_earliestDue_6 th x1 M x.1 x.2) (9999, 0)) (fun z_5 => some z_5) (fun q => some q)
noncomputable def j_X1_tardinessOf_53_5 (th : Nat)  (x1 : Int) (x2 : Int) (x3 : Int) (x4 : Int) (M : Mem) : Option ((Int × Int) ⊕ ((Int) ⊕ (Int))) :=
  bnd (x4 + 1) (fun x4_2 => some (.inl (x3, x4_2)))
noncomputable def s_X1_tardinessOf_5 (th : Nat) (x1 : Int) (x2 : Int) (M : Mem) (x3 : Int) (x4 : Int) : Option ((Int × Int) ⊕ ((Int) ⊕ (Int))) :=
  (if w32 x4 < w32 (M (th + 9) 0) then gi x1 8 ((if w32 (i_and (i_shr (M (th + 16 + 1) (ix x1)) x4) 1) = 0 then j_X1_tardinessOf_53_5 th x1 x2 x3 x4 M else gi x4 16 (bnd (x3 + (i_max 0 (x2 - (M (th + 9 + 1) (ix x4))))) (fun x3_4 => j_X1_tardinessOf_53_5 th x1 x2 x3_4 x4 M)))) else some (.inr (.inl x3)))
noncomputable def f_X1_tardinessOf (th : Nat) (x1 : Int) (x2 : Int) (M : Mem) : Option (Int) :=
  lpb (wh (fun x => s_X1_tardinessOf_5 th x1 x2 M x.1 x.2) (0, 0)) (fun z_5 => some z_5) (fun q => some q)
noncomputable def s_X1_serve_4 (th : Nat) (x1 : Int) (x2 : Int) (x3 : Int) (M : Mem) : Option ((Int × Int × Mem) ⊕ ((Int × Mem) ⊕ (Int × Mem))) :=
  gi x1 16 ((if w32 x3 < w32 (M (th + 9 + 3) (ix x1)) then bnd ((x1 * 6) + x3) (fun x4_2 => gi x4_2 96 (bnd (M (th + 9 + 4) (ix x4_2)) (fun x5_4 => gi x4_2 96 (gi x5_4 24 (bnd (i_min (M (th + 9 + 5) (ix x4_2)) (M (th + 4 + 4) (ix x5_4))) (fun x6_7 => gi x5_4 24 (gi x5_4 24 (bnd (upd2 M (th + 4 + 4) (ix x5_4) ((M (th + 4 + 4) (ix x5_4)) - x6_7)) (fun M_9 => gi x4_2 96 (bnd (upd2 M_9 (th + 9 + 6) (ix x4_2) x6_7) (fun M_11 => bnd (x2 + x6_7) (fun x2_13 => bnd (x3 + 1) (fun x3_14 => some (.inl (x2_13, x3_14, M_11))))))))))))))) else some (.inr (.inl (x2, M)))))
noncomputable def f_X1_serve (th : Nat) (x1 : Int) (M : Mem) : Option (Int × Mem) :=
  lpb (wh (fun x => s_X1_serve_4 th x1 x.1 x.2.1 x.2.2) (0, 0, M)) (fun z_15 => some (z_15.1, z_15.2)) (fun q => some q)
noncomputable def f_X2_append (th : Nat) (x1 : Int) (x2 : Int) (x3 : Int) (x4 : Int) (M : Mem) : Option (Int × Mem) :=
  bnd (M th 0) (fun x5_1 => gi x5_1 24 (bnd (upd2 M (th + 1) (ix x5_1) x1) (fun M_2 => gi x5_1 24 (bnd (upd2 M_2 (th + 2) (ix x5_1) x2) (fun M_4 => gi x5_1 24 (bnd (upd2 M_4 (th + 3) (ix x5_1) x3) (fun M_6 => gi x5_1 24 (bnd (upd2 M_6 (th + 4) (ix x5_1) x4) (fun M_8 => bnd (upd2 M_8 th 0 ((M_8 th 0) + 1)) (fun M_10 => some (x5_1, M_10)))))))))))
noncomputable def f_X2_copyFrom (th : Nat) (a1 : Nat) (M : Mem) : Option (Mem) :=
  bnd (upd2 M th 0 (M a1 0)) (fun M_1 => bnd (cpy2 M_1 (a1 + 1) (th + 1) 24) (fun M_2 => bnd (cpy2 M_2 (a1 + 2) (th + 2) 24) (fun M_3 => bnd (cpy2 M_3 (a1 + 3) (th + 3) 24) (fun M_4 => bnd (cpy2 M_4 (a1 + 4) (th + 4) 24) (fun M_5 => some M_5)))))
noncomputable def j_X3_divide_20 (th : Nat)  (x1 : Int) (x2 : Int) (y1 : Int) (M : Mem) : Option (Mem) :=
  bnd (upd2 M th 3 y1) (fun M_1 => bnd (upd2 M_1 (th + 1) 0 0) (fun M_2 => bnd (upd2 M_2 (th + 1) 1 x1) (fun M_3 => bnd (upd2 M_3 (th + 1) 2 x2) (fun M_4 => some M_4))))
noncomputable def f_X3_divide (th : Nat) (x1 : Int) (x2 : Int) (M : Mem) : Option (Mem) :=
  (if w32 x1 = (-1) then j_X3_divide_20 th x1 x2 1 M else (if w32 x2 = (-1) then j_X3_divide_20 th x1 x2 2 M else j_X3_divide_20 th x1 x2 3 M))
noncomputable def f_X3_endOf (th : Nat) (x1 : Int) (M : Mem) : Option (Int) :=
  (if w32 (x1 + 1) < w32 (M th 3) then gi (x1 + 1) 3 (some (M (th + 1) (ix (x1 + 1)))) else some (M th 0))
noncomputable def j_X3_zoneWith_24_4 (th : Nat)  (x1 : Int) (x2 : Int) (x3 : Int) (M : Mem) : Option ((Int × Int) ⊕ ((Int) ⊕ (Int))) :=
  bnd (x3 + 1) (fun x3_2 => some (.inl (x2, x3_2)))
noncomputable def s_X3_zoneWith_4 (th : Nat) (x1 : Int) (M : Mem) (x2 : Int) (x3 : Int) : Option ((Int × Int) ⊕ ((Int) ⊕ (Int))) :=
  (if w32 x3 < w32 (M th 3) then gi x3 3 ((if w32 x1 < w32 (M (th + 1) (ix x3)) then j_X3_zoneWith_24_4 th x1 x2 x3 M else j_X3_zoneWith_24_4 th x1 x3 x3 M)) else some (.inr (.inl x2)))
noncomputable def f_X3_zoneWith (th : Nat) (x1 : Int) (M : Mem) : Option (Int) :=
  lpb (wh (fun x => s_X3_zoneWith_4 th x1 M x.1 x.2) (0, 1)) (fun z_3 => some z_3) (fun q => some q)
noncomputable def f_X3_copyFrom (th : Nat) (a1 : Nat) (M : Mem) : Option (Mem) :=
  bnd (upd2 M th 0 (M a1 0)) (fun M_1 => bnd (upd2 M_1 th 1 (M_1 a1 1)) (fun M_2 => bnd (upd2 M_2 th 2 (M_2 a1 2)) (fun M_3 => bnd (upd2 M_3 th 3 (M_3 a1 3)) (fun M_4 => bnd (cpy2 M_4 (a1 + 1) (th + 1) 3) (fun M_5 => bnd (upd2 M_5 th 5 (M_5 a1 5)) (fun M_6 => bnd (upd2 M_6 th 6 (M_6 a1 6)) (fun M_7 => bnd (upd2 M_7 th 7 (M_7 a1 7)) (fun M_8 => bnd (cpy2 M_8 (a1 + 2) (th + 2) 2) (fun M_9 => some M_9)))))))))
noncomputable def f_X4_keepBetter  (x1 : Int) (x2 : Int) (x3 : Int) (M : Mem) : Option (Mem) :=
  (if w32 (M 86 2) < w32 x1 then bnd (upd2 M 86 2 x1) (fun M_1 => bnd (upd2 M_1 86 3 x2) (fun M_2 => bnd (upd2 M_2 86 4 x3) (fun M_3 => some M_3))) else some M)
noncomputable def f_X5_append (th : Nat) (x1 : Int) (M : Mem) : Option (Int × Mem) :=
  bnd (M th 0) (fun x2_1 => gi x2_1 16 (bnd (upd2 M (th + 1) (ix x2_1) x1) (fun M_2 => gi x2_1 16 (bnd (upd2 M_2 (th + 2) (ix x2_1) 0) (fun M_4 => gi x2_1 16 (bnd (upd2 M_4 (th + 3) (ix x2_1) 0) (fun M_6 => bnd (upd2 M_6 th 0 ((M_6 th 0) + 1)) (fun M_8 => some (x2_1, M_8)))))))))
noncomputable def f_X5_appendLine (th : Nat) (x1 : Int) (x2 : Int) (x3 : Int) (M : Mem) : Option (Int × Mem) :=
  gi x1 16 (bnd (M (th + 3) (ix x1)) (fun x4_2 => bnd ((x1 * 6) + x4_2) (fun x5_3 => gi x5_3 96 (bnd (upd2 M (th + 4) (ix x5_3) x2) (fun M_4 => gi x5_3 96 (bnd (upd2 M_4 (th + 5) (ix x5_3) x3) (fun M_6 => gi x5_3 96 (bnd (upd2 M_6 (th + 6) (ix x5_3) 0) (fun M_8 => gi x1 16 (gi x1 16 (bnd (upd2 M_8 (th + 3) (ix x1) ((M_8 (th + 3) (ix x1)) + 1)) (fun M_11 => some (x4_2, M_11)))))))))))))
noncomputable def s_X5_hasItem_2 (th : Nat) (x1 : Int) (x2 : Int) (M : Mem) (x3 : Int) : Option ((Int) ⊕ ((Unit) ⊕ (Int))) :=
  gi x1 16 ((if w32 x3 < w32 (M (th + 3) (ix x1)) then gi ((x1 * 6) + x3) 96 ((if w32 (M (th + 4) (ix ((x1 * 6) + x3))) = w32 x2 then some (.inr (.inr 1)) else bnd (x3 + 1) (fun x3_3 => some (.inl x3_3)))) else some (.inr (.inl ()))))
noncomputable def f_X5_hasItem (th : Nat) (x1 : Int) (x2 : Int) (M : Mem) : Option (Int) :=
  lpb (wh (fun x => s_X5_hasItem_2 th x1 x2 M x) 0) (fun z_4 => some 0) (fun q => some q)
noncomputable def j_X5_setStates_25_2 (th : Nat)  (x1 : Int) (x2 : Int) (x3 : Int) (M : Mem) : Option ((Int × Mem) ⊕ ((Mem) ⊕ (Mem))) :=
  bnd (x3 + 1) (fun x3_1 => some (.inl (x3_1, M)))
noncomputable def s_X5_setStates_2 (th : Nat) (x1 : Int) (x2 : Int) (x3 : Int) (M : Mem) : Option ((Int × Mem) ⊕ ((Mem) ⊕ (Mem))) :=
  (if w32 x3 < w32 (M th 0) then (if w32 (i_and (i_shr x1 x3) 1) = 0 then j_X5_setStates_25_2 th x1 x2 x3 M else gi x3 16 (bnd (upd2 M (th + 2) (ix x3) x2) (fun M_2 => j_X5_setStates_25_2 th x1 x2 x3 M_2))) else some (.inr (.inl M)))
noncomputable def f_X5_setStates (th : Nat) (x1 : Int) (x2 : Int) (M : Mem) : Option (Mem) :=
  lpb (wh (fun x => s_X5_setStates_2 th x1 x2 x.1 x.2) (0, M)) (fun z_4 => some z_4) (fun q => some q)
noncomputable def j_X5_countIn_25_4 (th : Nat)  (x1 : Int) (x2 : Int) (x3 : Int) (M : Mem) : Option ((Int × Int) ⊕ ((Int) ⊕ (Int))) :=
  bnd (x3 + 1) (fun x3_3 => some (.inl (x2, x3_3)))
noncomputable def s_X5_countIn_4 (th : Nat) (x1 : Int) (M : Mem) (x2 : Int) (x3 : Int) : Option ((Int × Int) ⊕ ((Int) ⊕ (Int))) :=
  (if w32 x3 < w32 (M th 0) then gi x3 16 ((if w32 (M (th + 2) (ix x3)) = w32 x1 then bnd (x2 + 1) (fun x2_2 => j_X5_countIn_25_4 th x1 x2_2 x3 M) else j_X5_countIn_25_4 th x1 x2 x3 M)) else some (.inr (.inl x2)))
noncomputable def f_X5_countIn (th : Nat) (x1 : Int) (M : Mem) : Option (Int) :=
  lpb (wh (fun x => s_X5_countIn_4 th x1 M x.1 x.2) (0, 0)) (fun z_4 => some z_4) (fun q => some q)
noncomputable def j_X5_dueBefore_41_5 (th : Nat)  (x1 : Int) (x2 : Int) (x3 : Int) (x4 : Int) (M : Mem) : Option ((Int × Int) ⊕ ((Int) ⊕ (Int))) :=
  bnd (x4 + 1) (fun x4_1 => some (.inl (x3, x4_1)))
noncomputable def s_X5_dueBefore_5 (th : Nat) (x1 : Int) (x2 : Int) (M : Mem) (x3 : Int) (x4 : Int) : Option ((Int × Int) ⊕ ((Int) ⊕ (Int))) :=
  (if w32 x4 < w32 (M th 0) then (if w32 (i_and (i_shr x1 x4) 1) = 0 then j_X5_dueBefore_41_5 th x1 x2 x3 x4 M else gi x4 16 ((if w32 (M (th + 1) (ix x4)) < w32 x2 then bnd (i_or x3 (i_shl 1 x4)) (fun x3_3 => j_X5_dueBefore_41_5 th x1 x2 x3_3 x4 M) else j_X5_dueBefore_41_5 th x1 x2 x3 x4 M))) else some (.inr (.inl x3)))
noncomputable def f_X5_dueBefore (th : Nat) (x1 : Int) (x2 : Int) (M : Mem) : Option (Int) :=
  lpb (wh (fun x => s_X5_dueBefore_5 th x1 x2 M x.1 x.2) (0, 0)) (fun z_4 => some z_4) (fun q => some q)
noncomputable def f_X5_pickedIn (th : Nat) (x1 : Int) (x2 : Int) (M : Mem) : Option (Int) :=
  gi x1 16 ((if w32 (M (th + 2) (ix x1)) = 2 then gi ((x1 * 6) + x2) 96 (some (M (th + 6) (ix ((x1 * 6) + x2)))) else some 0))
noncomputable def f_X5_shortIn (th : Nat) (x1 : Int) (x2 : Int) (M : Mem) : Option (Int) :=
  bnd ((x1 * 6) + x2) (fun x3_1 => gi x1 16 ((if w32 (M (th + 2) (ix x1)) = 2 then gi x3_1 96 (gi x3_1 96 (some ((M (th + 5) (ix x3_1)) - (M (th + 6) (ix x3_1))))) else some 0)))
noncomputable def f_X5_copyFrom (th : Nat) (a1 : Nat) (M : Mem) : Option (Mem) :=
  bnd (upd2 M th 0 (M a1 0)) (fun M_1 => bnd (upd2 M_1 th 1 (M_1 a1 1)) (fun M_2 => bnd (cpy2 M_2 (a1 + 1) (th + 1) 16) (fun M_3 => bnd (cpy2 M_3 (a1 + 2) (th + 2) 16) (fun M_4 => bnd (cpy2 M_4 (a1 + 3) (th + 3) 16) (fun M_5 => bnd (cpy2 M_5 (a1 + 4) (th + 4) 96) (fun M_6 => bnd (cpy2 M_6 (a1 + 5) (th + 5) 96) (fun M_7 => bnd (cpy2 M_7 (a1 + 6) (th + 6) 96) (fun M_8 => some M_8))))))))
noncomputable def f_X6_note (th : Nat) (x1 : Int) (x2 : Int) (M : Mem) : Option (Mem) :=
  gi x1 6 (gi x1 6 (bnd (upd2 M (th + 1) (ix x1) (i_or (M (th + 1) (ix x1)) (i_shl 1 x2))) (fun M_2 => gi x1 6 (gi x1 6 (bnd (upd2 M_2 (th + 4) (ix x1) ((M_2 (th + 4) (ix x1)) + 1)) (fun M_5 => gi x1 6 (gi x1 6 (bnd (upd2 M_5 (th + 2) (ix x1) (i_min (M_5 (th + 2) (ix x1)) x2)) (fun M_8 => gi x1 6 (gi x1 6 (bnd (upd2 M_8 (th + 3) (ix x1) (i_max (M_8 (th + 3) (ix x1)) x2)) (fun M_11 => some M_11))))))))))))
noncomputable def s_X6_returnCost_4 (th : Nat) (M : Mem) (x1 : Int) (x2 : Int) : Option ((Int × Int) ⊕ ((Int) ⊕ (Int))) :=
  (if w32 x2 < w32 (M th 6) then gi x2 6 (gi (M (th + 5) (ix x2)) 6 (bnd (x1 + (2 * (M (th + 3) (ix (M (th + 5) (ix x2)))))) (fun x1_3 => bnd (x2 + 1) (fun x2_4 => some (.inl (x1_3, x2_4)))))) else some (.inr (.inl x1)))
noncomputable def f_X6_returnCost (th : Nat) (M : Mem) : Option (Int) :=
  lpb (wh (fun x => s_X6_returnCost_4 th M x.1 x.2) (0, 0)) (fun z_5 => some z_5) (fun q => some q)
noncomputable def f_X6_sShapeCost (th : Nat) (M : Mem) : Option (Int) :=
  (if w32 (i_rem (M th 6) 2) = 0 then some ((M th 6) * (M th 1)) else gi ((M th 6) - 1) 6 (gi (M (th + 5) (ix ((M th 6) - 1))) 6 (some ((((M th 6) - 1) * (M th 1)) + (2 * (M (th + 3) (ix (M (th + 5) (ix ((M th 6) - 1))))))))))
noncomputable def j_X6_findLargestGap_84_14 (th : Nat)  (x1 : Int) (x2 : Int) (x3 : Int) (M : Mem) : Option ((Int × Int × Mem) ⊕ ((Mem) ⊕ (Mem))) :=
  bnd (x3 + 1) (fun x3_3 => some (.inl (x2, x3_3, M)))
noncomputable def j_X6_findLargestGap_77_14 (th : Nat)  (x1 : Int) (x2 : Int) (x3 : Int) (x4 : Int) (M : Mem) : Option ((Int × Int × Mem) ⊕ ((Mem) ⊕ (Mem))) :=
  (if w32 x4 = 0 then j_X6_findLargestGap_84_14 th x1 x2 x3 M else j_X6_findLargestGap_84_14 th x1 x3 x3 M)
noncomputable def j_X6_findLargestGap_48_14 (th : Nat)  (x1 : Int) (x2 : Int) (x3 : Int) (y0 : Int) (M : Mem) : Option ((Int × Int × Mem) ⊕ ((Mem) ⊕ (Mem))) :=
  (if w32 y0 = 0 then j_X6_findLargestGap_77_14 th x1 x2 x3 y0 M else (if w32 (M th 9) < w32 (x3 - x2) then bnd (upd2 M th 8 x2) (fun M_4 => bnd (upd2 M_4 th 9 (x3 - x2)) (fun M_5 => j_X6_findLargestGap_77_14 th x1 x2 x3 y0 M_5)) else j_X6_findLargestGap_77_14 th x1 x2 x3 y0 M))
noncomputable def j_X6_findLargestGap_43_14 (th : Nat)  (x1 : Int) (x2 : Int) (x3 : Int) (M : Mem) : Option ((Int × Int × Mem) ⊕ ((Mem) ⊕ (Mem))) :=
  j_X6_findLargestGap_48_14 th x1 x2 x3 1 M
noncomputable def s_X6_findLargestGap_14 (th : Nat) (x1 : Int) (x2 : Int) (x3 : Int) (M : Mem) : Option ((Int × Int × Mem) ⊕ ((Mem) ⊕ (Mem))) :=
  (if w32 (M th 1) < w32 x3 then some (.inr (.inl M)) else (if w32 x3 = w32 (M th 1) then j_X6_findLargestGap_43_14 th x1 x2 x3 M else gi x1 6 ((if w32 (i_and (i_shr (M (th + 1) (ix x1)) x3) 1) = 0 then j_X6_findLargestGap_48_14 th x1 x2 x3 0 M else j_X6_findLargestGap_43_14 th x1 x2 x3 M))))
noncomputable def f_X6_findLargestGap (th : Nat) (x1 : Int) (M : Mem) : Option (Mem) :=
  bnd (upd2 M th 8 0) (fun M_1 => bnd (upd2 M_1 th 9 0) (fun M_2 => lpb (wh (fun x => s_X6_findLargestGap_14 th x1 x.1 x.2.1 x.2.2) (0, 1, M_2)) (fun z_7 => some z_7) (fun q => some q)))
noncomputable def f_X6_stayingCost (th : Nat) (x1 : Int) (x2 : Int) (M : Mem) : Option (Int) :=
  gi x1 6 (bnd (M (th + 5) (ix x1)) (fun x3_2 => (if w32 x2 = 0 then gi x3_2 6 (gi (x1 + 1) 7 (some ((2 * (M (th + 3) (ix x3_2))) + (M (th + 6) (ix (x1 + 1)))))) else gi x3_2 6 (gi (x1 + 1) 7 (some ((2 * ((M th 1) - (M (th + 2) (ix x3_2)))) + (M (th + 7) (ix (x1 + 1)))))))))
noncomputable def j_X6_crossingCost_27 (th : Nat)  (y0 : Int) (y1 : Int) (M : Mem) : Option (Int) :=
  some (y0 + y1)
noncomputable def f_X6_crossingCost (th : Nat) (x1 : Int) (x2 : Int) (M : Mem) : Option (Int) :=
  (if w32 x2 = 0 then gi (x1 + 1) 7 (j_X6_crossingCost_27 th (M th 1) (M (th + 7) (ix (x1 + 1))) M) else gi (x1 + 1) 7 (j_X6_crossingCost_27 th (M th 1) (M (th + 6) (ix (x1 + 1))) M))
noncomputable def j_X6_visitPlace_111_23 (th : Nat) (a1 : Nat)  (x2 : Int) (x3 : Int) (x5 : Int) (M : Mem) : Option ((Int × Mem) ⊕ ((Mem) ⊕ (Mem))) :=
  bnd (x5 + 1) (fun x5_2 => some (.inl (x5_2, M)))
noncomputable def j_X6_visitPlace_50_23 (th : Nat) (a1 : Nat)  (x2 : Int) (x3 : Int) (x5 : Int) (y0 : Int) (M : Mem) : Option ((Int × Mem) ⊕ ((Mem) ⊕ (Mem))) :=
  (if w32 y0 = 0 then j_X6_visitPlace_111_23 th a1 x2 x3 x5 M else gi x5 24 ((if w32 (M (a1 + 4 + 1) (ix x5)) = w32 x2 then gi x5 24 ((if w32 (M (a1 + 4 + 2) (ix x5)) = w32 x3 then (if w32 (M th 12) < 24 then gi (M th 12) 24 (bnd (upd2 M (th + 8) (ix (M th 12)) x5) (fun M_5 => bnd (upd2 M_5 th 12 ((M_5 th 12) + 1)) (fun M_7 => j_X6_visitPlace_111_23 th a1 x2 x3 x5 M_7))) else j_X6_visitPlace_111_23 th a1 x2 x3 x5 M) else j_X6_visitPlace_111_23 th a1 x2 x3 x5 M)) else j_X6_visitPlace_111_23 th a1 x2 x3 x5 M)))
noncomputable def s_X6_visitPlace_23 (th : Nat) (a1 : Nat) (x2 : Int) (x3 : Int) (x5 : Int) (M : Mem) : Option ((Int × Mem) ⊕ ((Mem) ⊕ (Mem))) :=
  (if w32 x5 < w32 (M (a1 + 4) 0) then (if w32 (i_and (i_shr (M th 0) x5) 1) = 0 then j_X6_visitPlace_50_23 th a1 x2 x3 x5 0 M else j_X6_visitPlace_50_23 th a1 x2 x3 x5 1 M) else some (.inr (.inl M)))
noncomputable def f_X6_visitPlace (th : Nat) (a1 : Nat) (x2 : Int) (x3 : Int) (M : Mem) : Option (Mem) :=
  gi x2 6 ((if w32 (i_and (i_shr (M (th + 1) (ix x2)) x3) 1) = 0 then some M else lpb (wh (fun x => s_X6_visitPlace_23 th a1 x2 x3 x.1 x.2) (0, M)) (fun z_8 => some z_8) (fun q => some q)))
noncomputable def s_X7_workInAll_5 (th : Nat) (a1 : Nat) (x2 : Int) (M : Mem) (x3 : Int) (x4 : Int) : Option ((Int × Int) ⊕ ((Int) ⊕ (Int))) :=
  (if w32 x4 < w32 (M a1 3) then gi x2 8 (gi x4 3 (bnd (x3 + (M (th + 1 + 1 + ix x2) (ix x4))) (fun x3_3 => bnd (x4 + 1) (fun x4_4 => some (.inl (x3_3, x4_4)))))) else some (.inr (.inl x3)))
noncomputable def f_X7_workInAll (th : Nat) (a1 : Nat) (x2 : Int) (M : Mem) : Option (Int) :=
  lpb (wh (fun x => s_X7_workInAll_5 th a1 x2 M x.1 x.2) (0, 0)) (fun z_5 => some z_5) (fun q => some q)
noncomputable def f_X7_exitOpens (th : Nat) (a1 : Nat) (x2 : Int) (x3 : Int) (M : Mem) : Option (Int) :=
  (if w32 (x3 + 1) < w32 (M a1 3) then gi x3 2 (bnd (M (a1 + 2) (ix x3)) (fun x4_2 => (if w32 x4_2 = 0 then (if w32 x2 = 0 then some 0 else gi (x2 - 1) 8 (gi (x3 + 1) 3 (some (M (th + 19 + 1 + ix (x2 - 1)) (ix (x3 + 1)))))) else (if w32 x2 < w32 x4_2 then some 0 else gi (x2 - x4_2) 8 (gi (x3 + 1) 3 (some (M (th + 10 + 1 + ix (x2 - x4_2)) (ix (x3 + 1))))))))) else some 0)
noncomputable def f_X7_completion (th : Nat) (a1 : Nat) (x2 : Int) (M : Mem) : Option (Int) :=
  gi x2 8 (gi ((M a1 3) - 1) 3 (some (M (th + 19 + 1 + ix x2) (ix ((M a1 3) - 1)))))
noncomputable def s_X9_sortByKeys_9  (x1 : Int) (x2 : Int) (x3 : Int) (M : Mem) : Option ((Int × Mem) ⊕ ((Int × Mem) ⊕ (Mem))) :=
  (if 0 < w32 x3 then gi (x3 - 1) 8 (gi (M 137 (ix (x3 - 1))) 8 (gi x2 8 ((if w32 (M 135 (ix x2)) < w32 (M 135 (ix (M 137 (ix (x3 - 1))))) then gi (x3 - 1) 8 (gi x3 8 (bnd (upd2 M 137 (ix x3) (M 137 (ix (x3 - 1)))) (fun M_5 => bnd (x3 + (-1)) (fun x3_7 => some (.inl (x3_7, M_5)))))) else some (.inr (.inl (x3, M))))))) else some (.inr (.inl (x3, M))))
noncomputable def j_X9_sortByKeys_55_2   (x1 : Int) (x2 : Int) (x3 : Int) (M : Mem) : Option ((Int × Mem) ⊕ ((Mem) ⊕ (Mem))) :=
  gi x3 8 (bnd (upd2 M 137 (ix x3) x2) (fun M_9 => bnd (x2 + 1) (fun x2_11 => some (.inl (x2_11, M_9)))))
noncomputable def s_X9_sortByKeys_2  (x1 : Int) (x2 : Int) (M : Mem) : Option ((Int × Mem) ⊕ ((Mem) ⊕ (Mem))) :=
  (if w32 x2 < w32 x1 then lpb (wh (fun x => s_X9_sortByKeys_9 x1 x2 x.1 x.2) (x2, M)) (fun z_8 => j_X9_sortByKeys_55_2 x1 x2 z_8.1 z_8.2) (fun q => some (.inr (.inr q))) else some (.inr (.inl M)))
noncomputable def f_X9_sortByKeys  (x1 : Int) (M : Mem) : Option (Mem) :=
  lpb (wh (fun x => s_X9_sortByKeys_2 x1 x.1 x.2) (0, M)) (fun z_12 => some z_12) (fun q => some q)
noncomputable def s_X9_applyTo_17 (a1 : Nat) (x2 : Int) (M : Mem) : Option ((Int × Mem) ⊕ ((Mem) ⊕ (Mem))) :=
  (if w32 x2 < w32 (M a1 0) then gi x2 8 (gi (M 137 (ix x2)) 8 (gi x2 8 (bnd (upd2 M (a1 + 1) (ix x2) (M 138 (ix (M 137 (ix x2))))) (fun M_4 => bnd (x2 + 1) (fun x2_6 => some (.inl (x2_6, M_4))))))) else some (.inr (.inl M)))
noncomputable def f_X9_applyTo (a1 : Nat) (M : Mem) : Option (Mem) :=
  bnd (cpy2 M (a1 + 1) 138 8) (fun M_1 => lpb (wh (fun x => s_X9_applyTo_17 a1 x.1 x.2) (0, M_1)) (fun z_7 => some z_7) (fun q => some q))
noncomputable def f_X10_append  (x1 : Int) (M : Mem) : Option (Mem) :=
  gi (M 38 1) 600 (bnd (upd2 M 39 (ix (M 38 1)) (i_y x1)) (fun M_1 => bnd (upd2 M_1 38 1 ((M_1 38 1) + 1)) (fun M_3 => some M_3)))
noncomputable def f_X10_fail  (x1 : Int) (M : Mem) : Option (Int × Mem) :=
  bnd (upd2 M 38 2 x1) (fun M_1 => bnd (upd2 M_1 38 3 (M_1 38 5)) (fun M_2 => some (0, M_2)))
noncomputable def f_X10_isWithin  (x1 : Int) (x2 : Int) (M : Mem) : Option (Int) :=
  (if w32 (M 38 7) < w32 x1 then some 0 else (if w32 x2 < w32 (M 38 7) then some 0 else some 1))
noncomputable def s_X10_passWord_0  (M : Mem) : Option ((Mem) ⊕ ((Mem) ⊕ (Mem))) :=
  (if w32 (M 38 6) < w32 (M 38 1) then gi (M 38 6) 600 ((if w32 (M 39 (ix (M 38 6))) < 97 then some (.inr (.inl M)) else gi (M 38 6) 600 ((if 122 < w32 (M 39 (ix (M 38 6))) then some (.inr (.inl M)) else bnd (upd2 M 38 6 ((M 38 6) + 1)) (fun M_3 => some (.inl M_3)))))) else some (.inr (.inl M)))
noncomputable def f_X10_passWord  (M : Mem) : Option (Mem) :=
  lpb (wh (fun x => s_X10_passWord_0 x) M) (fun z_4 => some z_4) (fun q => some q)
noncomputable def j_X10_passNumber_77_5   (M : Mem) : Option ((Mem) ⊕ ((Mem) ⊕ (Mem))) :=
  bnd (upd2 M 38 6 ((M 38 6) + 1)) (fun M_6 => some (.inl M_6))
noncomputable def s_X10_passNumber_5  (M : Mem) : Option ((Mem) ⊕ ((Mem) ⊕ (Mem))) :=
  (if w32 (M 38 6) < w32 (M 38 1) then gi (M 38 6) 600 ((if w32 (M 39 (ix (M 38 6))) < 48 then some (.inr (.inl M)) else gi (M 38 6) 600 ((if 57 < w32 (M 39 (ix (M 38 6))) then some (.inr (.inl M)) else (if w32 (M 38 7) < 100000 then gi (M 38 6) 600 (bnd (upd2 M 38 7 ((((M 38 7) * 10) + (M 39 (ix (M 38 6)))) - 48)) (fun M_5 => j_X10_passNumber_77_5 M_5)) else j_X10_passNumber_77_5 M))))) else some (.inr (.inl M)))
noncomputable def f_X10_passNumber  (M : Mem) : Option (Mem) :=
  bnd (upd2 M 38 7 0) (fun M_1 => lpb (wh (fun x => s_X10_passNumber_5 x) M_1) (fun z_7 => some z_7) (fun q => some q))
noncomputable def f_J6_bitCount_0f7a4  (x0 : Int) (M : Mem) : Option (Int) :=
  bnd (x0 - (i_and (i_ushr x0 1) 1431655765)) (fun x0_1 => bnd ((i_and x0_1 858993459) + (i_and (i_ushr x0_1 2) 858993459)) (fun x0_2 => bnd (i_and (x0_2 + (i_ushr x0_2 4)) 252645135) (fun x0_3 => bnd (x0_3 + (i_ushr x0_3 8)) (fun x0_4 => bnd (x0_4 + (i_ushr x0_4 16)) (fun x0_5 => some (i_and x0_5 63))))))
noncomputable def f_X11_addOrder  (x1 : Int) (M : Mem) : Option ((Nat ⊕ Int) × Mem) :=
  cx1 (f_X11_needArgument x1 0 9999 M) (fun e_3 => some (.inl e_3, M)) (fun r_1 => cx1 (f_X11_needRoomForOrder M) (fun e_6 => some (.inl e_6, M)) (fun r_4 => cl2 (f_X5_append 10 x1 M) (fun r_7 M_8 => some (.inr r_7, M_8))))
noncomputable def f_X11_setPolicy  (x1 : Int) (M : Mem) : Option ((Nat ⊕ Int) × Mem) :=
  cx1 (f_X11_needArgument x1 0 3 M) (fun e_3 => some (.inl e_3, M)) (fun r_1 => bnd (M 2 5) (fun x2_4 => bnd (upd2 M 2 5 x1) (fun M_5 => some (.inr x2_4, M_5))))
noncomputable def j_X11_setZones_47   (x1 : Int) (x2 : Int) (M : Mem) : Option ((Nat ⊕ Int) × Mem) :=
  cl1 (f_X3_divide 2 x1 x2 M) (fun M_3 => some (.inr (M_3 2 3), M_3))
noncomputable def j_X11_setZones_43   (x1 : Int) (x2 : Int) (x3 : Int) (y0 : Int) (y1 : Int) (M : Mem) : Option ((Nat ⊕ Int) × Mem) :=
  cx1 (f_X11_needArgument y0 y1 x3 M) (fun e_6 => some (.inl e_6, M)) (fun r_4 => j_X11_setZones_47 x1 x2 M)
noncomputable def j_X11_setZones_24   (x1 : Int) (x2 : Int) (x3 : Int) (M : Mem) : Option ((Nat ⊕ Int) × Mem) :=
  (if w32 x2 = (-1) then j_X11_setZones_47 x1 x2 M else (if w32 x1 = (-1) then j_X11_setZones_43 x1 x2 x3 x2 6 M else j_X11_setZones_43 x1 x2 x3 x2 (x1 + 1) M))
noncomputable def f_X11_setZones  (x1 : Int) (x2 : Int) (M : Mem) : Option ((Nat ⊕ Int) × Mem) :=
  bnd ((M 2 0) - 1) (fun x3_1 => (if w32 x1 = (-1) then j_X11_setZones_24 x1 x2 x3_1 M else cx1 (f_X11_needArgument x1 1 x3_1 M) (fun e_9 => some (.inl e_9, M)) (fun r_7 => j_X11_setZones_24 x1 x2 x3_1 M)))
noncomputable def f_X11_setBuffer  (x1 : Int) (x2 : Int) (M : Mem) : Option ((Nat ⊕ Int) × Mem) :=
  cx1 (f_X11_needIndex x1 2 M) (fun e_3 => some (.inl e_3, M)) (fun r_1 => cx1 (f_X11_needArgument x2 0 4 M) (fun e_6 => some (.inl e_6, M)) (fun r_4 => gi x1 2 (bnd (M 4 (ix x1)) (fun x3_8 => gi x1 2 (bnd (upd2 M 4 (ix x1) x2) (fun M_9 => some (.inr x3_8, M_9)))))))
noncomputable def f_X11_setTimes  (x1 : Int) (x2 : Int) (M : Mem) : Option ((Nat ⊕ Int) × Mem) :=
  cx1 (f_X11_needArgument x1 0 99 M) (fun e_3 => some (.inl e_3, M)) (fun r_1 => cx1 (f_X11_needArgument x2 0 99 M) (fun e_6 => some (.inl e_6, M)) (fun r_4 => bnd ((100 * (M 2 6)) + (M 2 7)) (fun x3_7 => bnd (upd2 M 2 6 x1) (fun M_8 => bnd (upd2 M_8 2 7 x2) (fun M_9 => some (.inr x3_7, M_9))))))
noncomputable def s_X11_appendText_29  (x1 : Int) (x2 : Int) (M : Mem) : Option ((Int × Mem) ⊕ ((Mem) ⊕ ((Nat ⊕ Int) × Mem))) :=
  (if w32 x2 < 0 then some (.inr (.inl M)) else cl1 (f_X10_append (i_b (i_shr x1 x2)) M) (fun M_2 => bnd (x2 + (-8)) (fun x2_3 => some (.inl (x2_3, M_2)))))
noncomputable def f_X11_appendText  (x1 : Int) (M : Mem) : Option ((Nat ⊕ Int) × Mem) :=
  (if 600 < w32 ((M 38 1) + 4) then some (.inl 1, M) else lpb (wh (fun x => s_X11_appendText_29 x1 x.1 x.2) (24, M)) (fun z_4 => some (.inr (z_4 38 1), z_4)) (fun q => some q))
noncomputable def f_X11_truncateText  (x1 : Int) (M : Mem) : Option ((Nat ⊕ Int) × Mem) :=
  cx1 (f_X11_needArgument x1 0 (M 38 1) M) (fun e_3 => some (.inl e_3, M)) (fun r_1 => bnd (upd2 M 38 1 x1) (fun M_4 => some (.inr x1, M_4)))
noncomputable def f_X11_needAisle  (x1 : Int) (M : Mem) : Option ((Nat ⊕ Unit)) :=
  cx1 (f_X11_needIndex x1 (M 2 0) M) (fun e_3 => some (.inl e_3)) (fun r_1 => some (.inr ()))
noncomputable def f_X11_needZone  (x1 : Int) (M : Mem) : Option ((Nat ⊕ Unit)) :=
  cx1 (f_X11_needIndex x1 (M 2 3) M) (fun e_3 => some (.inl e_3)) (fun r_1 => some (.inr ()))
noncomputable def f_X11_needItem  (x1 : Int) (M : Mem) : Option ((Nat ⊕ Unit)) :=
  cx1 (f_X11_needIndex x1 (M 5 0) M) (fun e_3 => some (.inl e_3)) (fun r_1 => some (.inr ()))
noncomputable def f_X11_needOrder  (x1 : Int) (M : Mem) : Option ((Nat ⊕ Unit)) :=
  cx1 (f_X11_needIndex x1 (M 10 0) M) (fun e_3 => some (.inl e_3)) (fun r_1 => some (.inr ()))
noncomputable def f_X11_needBatch  (x1 : Int) (M : Mem) : Option ((Nat ⊕ Unit)) :=
  cx1 (f_X11_needIndex x1 (M 17 0) M) (fun e_3 => some (.inl e_3)) (fun r_1 => some (.inr ()))
noncomputable def f_X11_needBatchLimits  (x0 : Int) (x1 : Int) (M : Mem) : Option ((Nat ⊕ Unit)) :=
  cx1 (f_X11_needArgument x0 1 6 M) (fun e_3 => some (.inl e_3)) (fun r_1 => cx1 (f_X11_needArgument x1 1 99999 M) (fun e_6 => some (.inl e_6)) (fun r_4 => some (.inr ())))
noncomputable def f_X11_batchedOrders  (M : Mem) : Option (Int) :=
  cl1 (f_X5_countIn 10 1 M) (fun r_1 => some (i_max 1 r_1))
noncomputable def f_X0_takeFrom (th : Nat) (x1 : Int) (x2 : Int) (M : Mem) : Option (Mem) :=
  gi x1 8 (gi x1 8 (bnd (upd2 M (th + 1) (ix x1) (i_and (M (th + 1) (ix x1)) (i_xor (i_shl 1 x2) (-1)))) (fun M_2 => gi x1 8 ((if w32 (M_2 (th + 1) (ix x1)) = 0 then cl1 (f_X0_drop th x1 M_2) (fun M_6 => some M_6) else some M_2)))))
noncomputable def f_X1_copyFrom (th : Nat) (a1 : Nat) (M : Mem) : Option (Mem) :=
  cl1 (f_X3_copyFrom (th + 1) (a1 + 1) M) (fun M_2 => cl1 (f_X2_copyFrom (th + 4) (a1 + 4) M_2) (fun M_4 => cl1 (f_X5_copyFrom (th + 9) (a1 + 9) M_4) (fun M_6 => cl1 (f_X0_copyFrom (th + 16) (a1 + 16) M_6) (fun M_8 => some M_8))))
noncomputable def j_X1_weightOfAll_31_4 (th : Nat)  (x1 : Int) (x2 : Int) (x3 : Int) (M : Mem) : Option ((Int × Int) ⊕ ((Int) ⊕ (Int))) :=
  bnd (x3 + 1) (fun x3_1 => some (.inl (x2, x3_1)))
noncomputable def s_X1_weightOfAll_4 (th : Nat) (x1 : Int) (M : Mem) (x2 : Int) (x3 : Int) : Option ((Int × Int) ⊕ ((Int) ⊕ (Int))) :=
  (if w32 x3 < w32 (M (th + 9) 0) then (if w32 (i_and (i_shr x1 x3) 1) = 0 then j_X1_weightOfAll_31_4 th x1 x2 x3 M else cl1 (f_X1_weightOf th x3 M) (fun r_2 => bnd (x2 + r_2) (fun x2_4 => j_X1_weightOfAll_31_4 th x1 x2_4 x3 M))) else some (.inr (.inl x2)))
noncomputable def f_X1_weightOfAll (th : Nat) (x1 : Int) (M : Mem) : Option (Int) :=
  lpb (wh (fun x => s_X1_weightOfAll_4 th x1 M x.1 x.2) (0, 0)) (fun z_5 => some z_5) (fun q => some q)
noncomputable def f_X1_openBatch (th : Nat) (x1 : Int) (M : Mem) : Option (Int × Mem) :=
  cl1 (f_X5_setStates (th + 9) x1 1 M) (fun M_2 => cl2 (f_X0_append (th + 16) x1 M_2) (fun r_3 M_4 => some (r_3, M_4)))
noncomputable def j_X1_pickFirstBatch_41_14 (th : Nat)  (x1 : Int) (x2 : Int) (x3 : Int) (M : Mem) : Option ((Int × Int × Mem) ⊕ ((Int × Mem) ⊕ (Int × Mem))) :=
  bnd (x3 + 1) (fun x3_2 => some (.inl (x2, x3_2, M)))
noncomputable def s_X1_pickFirstBatch_14 (th : Nat) (x1 : Int) (x2 : Int) (x3 : Int) (M : Mem) : Option ((Int × Int × Mem) ⊕ ((Int × Mem) ⊕ (Int × Mem))) :=
  (if w32 x3 < w32 (M (th + 9) 0) then (if w32 (i_and (i_shr x1 x3) 1) = 0 then j_X1_pickFirstBatch_41_14 th x1 x2 x3 M else cl2 (f_X1_serve th x3 M) (fun r_3 M_4 => bnd (x2 + r_3) (fun x2_5 => j_X1_pickFirstBatch_41_14 th x1 x2_5 x3 M_4))) else some (.inr (.inl (x2, M))))
noncomputable def f_X1_pickFirstBatch (th : Nat) (M : Mem) : Option (Int × Mem) :=
  bnd (M (th + 16 + 1) 0) (fun x1_1 => lpb (wh (fun x => s_X1_pickFirstBatch_14 th x1_1 x.1 x.2.1 x.2.2) (0, 0, M)) (fun z_6 => cl1 (f_X5_setStates (th + 9) x1_1 2 z_6.2) (fun M_8 => cl1 (f_X0_drop (th + 16) 0 M_8) (fun M_10 => some (z_6.1, M_10)))) (fun q => some q))
noncomputable def f_X3_build (th : Nat) (x1 : Int) (x2 : Int) (x3 : Int) (M : Mem) : Option (Mem) :=
  bnd (upd2 M th 0 x1) (fun M_1 => bnd (upd2 M_1 th 1 x2) (fun M_2 => bnd (upd2 M_2 th 2 x3) (fun M_3 => cl1 (f_X3_divide th (-1) (-1) M_3) (fun M_5 => some M_5))))
noncomputable def s_X5_shortInAll_4 (th : Nat) (x1 : Int) (M : Mem) (x2 : Int) (x3 : Int) : Option ((Int × Int) ⊕ ((Int) ⊕ (Int))) :=
  gi x1 16 ((if w32 x3 < w32 (M (th + 3) (ix x1)) then cl1 (f_X5_shortIn th x1 x3 M) (fun r_2 => bnd (x2 + r_2) (fun x2_4 => bnd (x3 + 1) (fun x3_5 => some (.inl (x2_4, x3_5))))) else some (.inr (.inl x2))))
noncomputable def f_X5_shortInAll (th : Nat) (x1 : Int) (M : Mem) : Option (Int) :=
  lpb (wh (fun x => s_X5_shortInAll_4 th x1 M x.1 x.2) (0, 0)) (fun z_6 => some z_6) (fun q => some q)
noncomputable def s_X5_pickedOfDone_14 (th : Nat) (x2 : Int) (M : Mem) (x1 : Int) (x3 : Int) : Option ((Int × Int) ⊕ ((Int) ⊕ (Int))) :=
  gi x2 16 ((if w32 x3 < w32 (M (th + 3) (ix x2)) then cl1 (f_X5_pickedIn th x2 x3 M) (fun r_2 => bnd (x1 + r_2) (fun x1_4 => bnd (x3 + 1) (fun x3_5 => some (.inl (x1_4, x3_5))))) else some (.inr (.inl x1))))
noncomputable def s_X5_pickedOfDone_4 (th : Nat) (M : Mem) (x1 : Int) (x2 : Int) : Option ((Int × Int) ⊕ ((Int) ⊕ (Int))) :=
  (if w32 x2 < w32 (M th 0) then lpb (wh (fun x => s_X5_pickedOfDone_14 th x2 M x.1 x.2) (x1, 0)) (fun z_6 => bnd (x2 + 1) (fun x2_7 => some (.inl (z_6, x2_7)))) (fun q => some (.inr (.inr q))) else some (.inr (.inl x1)))
noncomputable def f_X5_pickedOfDone (th : Nat) (M : Mem) : Option (Int) :=
  lpb (wh (fun x => s_X5_pickedOfDone_4 th M x.1 x.2) (0, 0)) (fun z_8 => some z_8) (fun q => some q)
noncomputable def j_X5_repeatShort_54_9 (th : Nat)  (x1 : Int) (x3 : Int) (x4 : Int) (M : Mem) : Option ((Int × Mem) ⊕ ((Mem) ⊕ (Int × Mem))) :=
  bnd (x4 + 1) (fun x4_9 => some (.inl (x4_9, M)))
noncomputable def s_X5_repeatShort_9 (th : Nat) (x1 : Int) (x3 : Int) (x4 : Int) (M : Mem) : Option ((Int × Mem) ⊕ ((Mem) ⊕ (Int × Mem))) :=
  gi x1 16 ((if w32 x4 < w32 (M (th + 3) (ix x1)) then cl1 (f_X5_shortIn th x1 x4 M) (fun r_4 => (if 0 < w32 r_4 then gi ((x1 * 6) + x4) 96 (cl2 (f_X5_appendLine th x3 (M (th + 4) (ix ((x1 * 6) + x4))) r_4 M) (fun r_7 M_8 => j_X5_repeatShort_54_9 th x1 x3 x4 M_8)) else j_X5_repeatShort_54_9 th x1 x3 x4 M)) else some (.inr (.inl M))))
noncomputable def f_X5_repeatShort (th : Nat) (x1 : Int) (x2 : Int) (M : Mem) : Option (Int × Mem) :=
  cl2 (f_X5_append th x2 M) (fun r_1 M_2 => lpb (wh (fun x => s_X5_repeatShort_9 th x1 r_1 x.1 x.2) (0, M_2)) (fun z_10 => bnd (upd2 z_10 th 1 (i_or (z_10 th 1) (i_shl 1 x1))) (fun M_11 => some (r_1, M_11))) (fun q => some q))
noncomputable def s_X6_survey_24 (th : Nat) (a1 : Nat) (x3 : Int) (M : Mem) : Option ((Int × Mem) ⊕ ((Mem) ⊕ (Mem))) :=
  (if w32 x3 < 6 then gi x3 6 (bnd (upd2 M (th + 1) (ix x3) 0) (fun M_5 => gi x3 6 (bnd (upd2 M_5 (th + 4) (ix x3) 0) (fun M_7 => gi x3 6 (bnd (upd2 M_7 (th + 2) (ix x3) 20) (fun M_9 => gi x3 6 (bnd (upd2 M_9 (th + 3) (ix x3) 0) (fun M_11 => bnd (x3 + 1) (fun x3_13 => some (.inl (x3_13, M_11))))))))))) else some (.inr (.inl M)))
noncomputable def j_X6_survey_111_67 (th : Nat) (a1 : Nat)  (x3 : Int) (M : Mem) : Option ((Int × Mem) ⊕ ((Mem) ⊕ (Mem))) :=
  bnd (x3 + 1) (fun x3_15 => some (.inl (x3_15, M)))
noncomputable def s_X6_survey_67 (th : Nat) (a1 : Nat) (x3 : Int) (M : Mem) : Option ((Int × Mem) ⊕ ((Mem) ⊕ (Mem))) :=
  (if w32 x3 < w32 (M (a1 + 4) 0) then (if w32 (i_and (i_shr (M th 0) x3) 1) = 0 then j_X6_survey_111_67 th a1 x3 M else gi x3 24 (gi x3 24 (cl1 (f_X6_note th (M (a1 + 4 + 1) (ix x3)) (M (a1 + 4 + 2) (ix x3)) M) (fun M_19 => j_X6_survey_111_67 th a1 x3 M_19)))) else some (.inr (.inl M)))
noncomputable def f_X6_survey (th : Nat) (a1 : Nat) (x2 : Int) (M : Mem) : Option (Mem) :=
  cl1 (f_X1_itemsOfAll a1 x2 M) (fun r_1 => bnd (upd2 M th 0 r_1) (fun M_3 => bnd (upd2 M_3 th 1 ((M_3 (a1 + 1) 1) + 1)) (fun M_4 => lpb (wh (fun x => s_X6_survey_24 th a1 x.1 x.2) (0, M_4)) (fun z_14 => lpb (wh (fun x => s_X6_survey_67 th a1 x.1 x.2) (0, z_14)) (fun z_20 => some z_20) (fun q => some q)) (fun q => some q))))
noncomputable def s_X6_itemsIn_10 (th : Nat) (a1 : Nat) (x2 : Int) (M : Mem) (x3 : Int) (x4 : Int) : Option ((Int × Int) ⊕ ((Int) ⊕ (Int))) :=
  cl1 (f_X3_endOf a1 x2 M) (fun r_3 => (if w32 x4 < w32 r_3 then gi x4 6 (bnd (x3 + (M (th + 4) (ix x4))) (fun x3_6 => bnd (x4 + 1) (fun x4_7 => some (.inl (x3_6, x4_7))))) else some (.inr (.inl x3))))
noncomputable def f_X6_itemsIn (th : Nat) (a1 : Nat) (x2 : Int) (M : Mem) : Option (Int) :=
  gi x2 3 (bnd (M (a1 + 1) (ix x2)) (fun x4_2 => lpb (wh (fun x => s_X6_itemsIn_10 th a1 x2 M x.1 x.2) (0, x4_2)) (fun z_8 => some z_8) (fun q => some q)))
noncomputable def j_X6_findAisles_50_12 (th : Nat) (a1 : Nat)  (x2 : Int) (x3 : Int) (M : Mem) : Option ((Int × Mem) ⊕ ((Mem) ⊕ (Mem))) :=
  bnd (x3 + 1) (fun x3_7 => some (.inl (x3_7, M)))
noncomputable def s_X6_findAisles_12 (th : Nat) (a1 : Nat) (x2 : Int) (x3 : Int) (M : Mem) : Option ((Int × Mem) ⊕ ((Mem) ⊕ (Mem))) :=
  cl1 (f_X3_endOf a1 x2 M) (fun r_4 => (if w32 x3 < w32 r_4 then gi x3 6 ((if w32 (M (th + 1) (ix x3)) = 0 then j_X6_findAisles_50_12 th a1 x2 x3 M else gi (M th 6) 6 (bnd (upd2 M (th + 5) (ix (M th 6)) x3) (fun M_8 => bnd (upd2 M_8 th 6 ((M_8 th 6) + 1)) (fun M_10 => j_X6_findAisles_50_12 th a1 x2 x3 M_10))))) else some (.inr (.inl M))))
noncomputable def f_X6_findAisles (th : Nat) (a1 : Nat) (x2 : Int) (M : Mem) : Option (Mem) :=
  bnd (upd2 M th 6 0) (fun M_1 => gi x2 3 (bnd (M_1 (a1 + 1) (ix x2)) (fun x3_3 => lpb (wh (fun x => s_X6_findAisles_12 th a1 x2 x.1 x.2) (x3_3, M_1)) (fun z_11 => some z_11) (fun q => some q))))
noncomputable def s_X6_largestGapCost_22 (th : Nat) (x1 : Int) (x2 : Int) (M : Mem) : Option ((Int × Int × Mem) ⊕ ((Int × Mem) ⊕ (Int × Mem))) :=
  (if w32 x2 < w32 ((M th 6) - 1) then gi x2 6 (cl1 (f_X6_findLargestGap th (M (th + 5) (ix x2)) M) (fun M_6 => bnd (x1 + (2 * ((M_6 th 1) - (M_6 th 9)))) (fun x1_7 => bnd (x2 + 1) (fun x2_8 => some (.inl (x1_7, x2_8, M_6)))))) else some (.inr (.inl (x1, M))))
noncomputable def f_X6_largestGapCost (th : Nat) (M : Mem) : Option (Int × Mem) :=
  (if w32 (M th 6) < 2 then cl1 (f_X6_returnCost th M) (fun r_1 => some (r_1, M)) else bnd (2 * (M th 1)) (fun x1_3 => lpb (wh (fun x => s_X6_largestGapCost_22 th x.1 x.2.1 x.2.2) (x1_3, 1, M)) (fun z_9 => some (z_9.1, z_9.2)) (fun q => some q)))
noncomputable def s_X6_planCombined_28 (th : Nat) (x1 : Int) (M : Mem) : Option ((Int × Mem) ⊕ ((Mem) ⊕ (Mem))) :=
  (if w32 x1 < 0 then some (.inr (.inl M)) else cl1 (f_X6_stayingCost th x1 0 M) (fun r_6 => cl1 (f_X6_crossingCost th x1 0 M) (fun r_8 => gi x1 7 (bnd (upd2 M (th + 6) (ix x1) (i_min r_6 r_8)) (fun M_10 => cl1 (f_X6_stayingCost th x1 1 M_10) (fun r_12 => cl1 (f_X6_crossingCost th x1 1 M_10) (fun r_14 => gi x1 7 (bnd (upd2 M_10 (th + 7) (ix x1) (i_min r_12 r_14)) (fun M_16 => bnd (x1 + (-1)) (fun x1_18 => some (.inl (x1_18, M_16))))))))))))
noncomputable def f_X6_planCombined (th : Nat) (M : Mem) : Option (Mem) :=
  gi (M th 6) 7 (bnd (upd2 M (th + 6) (ix (M th 6)) 0) (fun M_1 => gi (M_1 th 6) 7 (bnd (upd2 M_1 (th + 7) (ix (M_1 th 6)) 1000000) (fun M_3 => bnd ((M_3 th 6) - 1) (fun x1_5 => lpb (wh (fun x => s_X6_planCombined_28 th x.1 x.2) (x1_5, M_3)) (fun z_19 => some z_19) (fun q => some q))))))
noncomputable def s_X6_visitUp_3 (th : Nat) (a1 : Nat) (x2 : Int) (x3 : Int) (x4 : Int) (M : Mem) : Option ((Int × Mem) ⊕ ((Mem) ⊕ (Mem))) :=
  (if w32 x3 < w32 x4 then some (.inr (.inl M)) else cl1 (f_X6_visitPlace th a1 x2 x4 M) (fun M_2 => bnd (x4 + 1) (fun x4_3 => some (.inl (x4_3, M_2)))))
noncomputable def f_X6_visitUp (th : Nat) (a1 : Nat) (x2 : Int) (x3 : Int) (M : Mem) : Option (Mem) :=
  lpb (wh (fun x => s_X6_visitUp_3 th a1 x2 x3 x.1 x.2) (1, M)) (fun z_4 => some z_4) (fun q => some q)
noncomputable def s_X6_visitDown_4 (th : Nat) (a1 : Nat) (x2 : Int) (x3 : Int) (x4 : Int) (M : Mem) : Option ((Int × Mem) ⊕ ((Mem) ⊕ (Mem))) :=
  (if w32 x4 < w32 x3 then some (.inr (.inl M)) else cl1 (f_X6_visitPlace th a1 x2 x4 M) (fun M_2 => bnd (x4 + (-1)) (fun x4_3 => some (.inl (x4_3, M_2)))))
noncomputable def f_X6_visitDown (th : Nat) (a1 : Nat) (x2 : Int) (x3 : Int) (M : Mem) : Option (Mem) :=
  lpb (wh (fun x => s_X6_visitDown_4 th a1 x2 x3 x.1 x.2) (20, M)) (fun z_4 => some z_4) (fun q => some q)
noncomputable def j_X7_run_34_6 (th : Nat) (a1 : Nat)  (x2 : Int) (x3 : Int) (x4 : Int) (x5 : Int) (y0 : Int) (M : Mem) : Option ((Int × Int × Mem) ⊕ ((Mem) ⊕ (Mem))) :=
  gi x2 8 (gi x5 3 (bnd (upd2 M (th + 10 + 1 + ix x2) (ix x5) (i_max x4 y0)) (fun M_2 => gi x2 8 (gi x5 3 (gi x3 8 (gi x5 3 (bnd ((M_2 (th + 10 + 1 + ix x2) (ix x5)) + (M_2 (th + 1 + 1 + ix x3) (ix x5))) (fun x7_8 => gi x2 8 (cl1 (f_X7_exitOpens th a1 x2 x5 M_2) (fun r_10 => gi x5 3 (bnd (upd2 M_2 (th + 19 + 1 + ix x2) (ix x5) (i_max x7_8 r_10)) (fun M_12 => gi x2 8 (gi x5 3 (bnd (M_12 (th + 19 + 1 + ix x2) (ix x5)) (fun x4_16 => bnd (x5 + 1) (fun x5_17 => some (.inl (x4_16, x5_17, M_12))))))))))))))))))
noncomputable def s_X7_run_6 (th : Nat) (a1 : Nat) (x2 : Int) (x3 : Int) (x4 : Int) (x5 : Int) (M : Mem) : Option ((Int × Int × Mem) ⊕ ((Mem) ⊕ (Mem))) :=
  (if w32 x5 < w32 (M a1 3) then (if w32 x2 = 0 then j_X7_run_34_6 th a1 x2 x3 x4 x5 0 M else gi (x2 - 1) 8 (gi x5 3 (j_X7_run_34_6 th a1 x2 x3 x4 x5 (M (th + 19 + 1 + ix (x2 - 1)) (ix x5)) M))) else some (.inr (.inl M)))
noncomputable def f_X7_run (th : Nat) (a1 : Nat) (x2 : Int) (x3 : Int) (M : Mem) : Option (Mem) :=
  lpb (wh (fun x => s_X7_run_6 th a1 x2 x3 x.1 x.2.1 x.2.2) (0, 0, M)) (fun z_20 => some z_20) (fun q => some q)
noncomputable def j_X8_candidatesIn_40_4 (a0 : Nat)  (x1 : Int) (x2 : Int) (x3 : Int) (M : Mem) : Option ((Int × Int) ⊕ ((Int) ⊕ (Int))) :=
  bnd (x3 + 1) (fun x3_3 => some (.inl (x2, x3_3)))
noncomputable def s_X8_candidatesIn_4 (a0 : Nat) (x1 : Int) (M : Mem) (x2 : Int) (x3 : Int) : Option ((Int × Int) ⊕ ((Int) ⊕ (Int))) :=
  (if w32 x3 < w32 (M (a0 + 9) 0) then cl1 (f_X1_canBeBatched a0 (i_shl 1 x3) M) (fun r_1 => (if w32 r_1 = 0 then j_X8_candidatesIn_40_4 a0 x1 x2 x3 M else cl1 (f_X1_weightOf a0 x3 M) (fun r_4 => (if w32 x1 < w32 r_4 then j_X8_candidatesIn_40_4 a0 x1 x2 x3 M else bnd (i_or x2 (i_shl 1 x3)) (fun x2_6 => j_X8_candidatesIn_40_4 a0 x1 x2_6 x3 M))))) else some (.inr (.inl x2)))
noncomputable def f_X8_candidatesIn (a0 : Nat) (x1 : Int) (M : Mem) : Option (Int) :=
  lpb (wh (fun x => s_X8_candidatesIn_4 a0 x1 M x.1 x.2) (0, 0)) (fun z_7 => some z_7) (fun q => some q)
noncomputable def f_X8_seedValue (a0 : Nat) (x1 : Int) (x2 : Int) (M : Mem) : Option (Int) :=
  (if w32 x2 = 1 then cl1 (f_X1_weightOf a0 x1 M) (fun r_1 => some r_1) else (if w32 x2 = 2 then cl1 (f_X1_aislesOf a0 x1 M) (fun r_3 => cl1 (f_J6_bitCount_0f7a4 r_3 M) (fun r_5 => some r_5)) else gi x1 16 (some (-(M (a0 + 9 + 1) (ix x1))))))
noncomputable def j_X9_fillKeys_43_2 (a1 : Nat)  (x2 : Int) (x3 : Int) (y1 : Int) (y2 : Int) (M : Mem) : Option ((Int × Mem) ⊕ ((Mem) ⊕ (Mem))) :=
  gi y1 8 (bnd (upd2 M 135 (ix y1) y2) (fun M_3 => bnd (x3 + 1) (fun x3_5 => some (.inl (x3_5, M_3)))))
noncomputable def s_X9_fillKeys_2 (a1 : Nat) (x2 : Int) (x3 : Int) (M : Mem) : Option ((Int × Mem) ⊕ ((Mem) ⊕ (Mem))) :=
  (if w32 x3 < w32 (M (a1 + 16) 0) then (if w32 x2 = 1 then cl1 (f_X7_workInAll 98 (a1 + 1) x3 M) (fun r_1 => j_X9_fillKeys_43_2 a1 x2 x3 x3 r_1 M) else cl1 (f_X1_earliestDue a1 x3 M) (fun r_6 => j_X9_fillKeys_43_2 a1 x2 x3 x3 r_6 M)) else some (.inr (.inl M)))
noncomputable def f_X9_fillKeys (a1 : Nat) (x2 : Int) (M : Mem) : Option (Mem) :=
  lpb (wh (fun x => s_X9_fillKeys_2 a1 x2 x.1 x.2) (0, M)) (fun z_8 => some z_8) (fun q => some q)
noncomputable def j_X10_nextToken_39_0   (M : Mem) : Option ((Mem) ⊕ ((Mem) ⊕ (Mem))) :=
  bnd (upd2 M 38 6 ((M 38 6) + 1)) (fun M_2 => some (.inl M_2))
noncomputable def s_X10_nextToken_0  (M : Mem) : Option ((Mem) ⊕ ((Mem) ⊕ (Mem))) :=
  (if w32 (M 38 6) < w32 (M 38 1) then gi (M 38 6) 600 ((if w32 (M 39 (ix (M 38 6))) = 32 then j_X10_nextToken_39_0 M else gi (M 38 6) 600 ((if w32 (M 39 (ix (M 38 6))) = 10 then j_X10_nextToken_39_0 M else some (.inr (.inl M)))))) else some (.inr (.inl M)))
noncomputable def j_X10_nextToken_179   (y1 : Int) (M : Mem) : Option (Mem) :=
  bnd (upd2 M 38 4 y1) (fun M_9 => bnd (upd2 M_9 38 6 ((M_9 38 6) + 1)) (fun M_10 => some M_10))
noncomputable def j_X10_nextToken_159   (M : Mem) : Option (Mem) :=
  gi (M 38 5) 600 ((if w32 (M 39 (ix (M 38 5))) = 59 then j_X10_nextToken_179 3 M else j_X10_nextToken_179 4 M))
noncomputable def j_X10_nextToken_119   (M : Mem) : Option (Mem) :=
  gi (M 38 5) 600 ((if w32 (M 39 (ix (M 38 5))) < 48 then j_X10_nextToken_159 M else gi (M 38 5) 600 ((if 57 < w32 (M 39 (ix (M 38 5))) then j_X10_nextToken_159 M else bnd (upd2 M 38 4 2) (fun M_12 => cl1 (f_X10_passNumber M_12) (fun M_14 => some M_14))))))
noncomputable def j_X10_nextToken_52   (M : Mem) : Option (Mem) :=
  bnd (upd2 M 38 5 (M 38 6)) (fun M_5 => (if w32 (M_5 38 5) < w32 (M_5 38 1) then gi (M_5 38 5) 600 ((if w32 (M_5 39 (ix (M_5 38 5))) < 97 then j_X10_nextToken_119 M_5 else gi (M_5 38 5) 600 ((if 122 < w32 (M_5 39 (ix (M_5 38 5))) then j_X10_nextToken_119 M_5 else bnd (upd2 M_5 38 4 1) (fun M_16 => cl1 (f_X10_passWord M_16) (fun M_18 => some M_18)))))) else bnd (upd2 M_5 38 4 0) (fun M_19 => some M_19)))
noncomputable def f_X10_nextToken  (M : Mem) : Option (Mem) :=
  lpb (wh (fun x => s_X10_nextToken_0 x) M) (fun z_4 => j_X10_nextToken_52 z_4) (fun q => some q)
noncomputable def f_X11_setLayout  (x1 : Int) (x2 : Int) (x3 : Int) (M : Mem) : Option ((Nat ⊕ Int) × Mem) :=
  cx1 (f_X11_needArgument x1 1 6 M) (fun e_3 => some (.inl e_3, M)) (fun r_1 => cx1 (f_X11_needArgument x2 2 20 M) (fun e_6 => some (.inl e_6, M)) (fun r_4 => cx1 (f_X11_needArgument x3 1 9 M) (fun e_9 => some (.inl e_9, M)) (fun r_7 => (if 0 < w32 (M 5 0) then some (.inl 1, M) else cl1 (f_X3_build 2 x1 x2 x3 M) (fun M_11 => some (.inr (x1 * x2), M_11))))))
noncomputable def f_X11_addItem  (x1 : Int) (x2 : Int) (x3 : Int) (x4 : Int) (M : Mem) : Option ((Nat ⊕ Int) × Mem) :=
  cx1 (f_X11_needAisle x1 M) (fun e_3 => some (.inl e_3, M)) (fun r_1 => cx1 (f_X11_needIndex (x2 - 1) (M 2 1) M) (fun e_6 => some (.inl e_6, M)) (fun r_4 => cx1 (f_X11_needArgument x3 1 50 M) (fun e_9 => some (.inl e_9, M)) (fun r_7 => cx1 (f_X11_needArgument x4 0 999 M) (fun e_12 => some (.inl e_12, M)) (fun r_10 => (if w32 (M 5 0) < 24 then cl2 (f_X2_append 5 x1 x2 x3 x4 M) (fun r_13 M_14 => some (.inr r_13, M_14)) else some (.inl 1, M))))))
noncomputable def f_X11_stock  (x1 : Int) (M : Mem) : Option ((Nat ⊕ Int)) :=
  cx1 (f_X11_needItem x1 M) (fun e_3 => some (.inl e_3)) (fun r_1 => gi x1 24 (some (.inr (M 9 (ix x1)))))
noncomputable def f_X11_restock  (x1 : Int) (x2 : Int) (M : Mem) : Option ((Nat ⊕ Int) × Mem) :=
  cx1 (f_X11_needItem x1 M) (fun e_3 => some (.inl e_3, M)) (fun r_1 => gi x1 24 (cx1 (f_X11_needArgument x2 1 (999 - (M 9 (ix x1))) M) (fun e_7 => some (.inl e_7, M)) (fun r_5 => gi x1 24 (gi x1 24 (bnd (upd2 M 9 (ix x1) ((M 9 (ix x1)) + x2)) (fun M_9 => gi x1 24 (some (.inr (M_9 9 (ix x1)), M_9))))))))
noncomputable def j_X11_addLine_58   (M : Mem) : Option ((Nat ⊕ Int) × Mem) :=
  some (.inl 1, M)
noncomputable def f_X11_addLine  (x1 : Int) (x2 : Int) (x3 : Int) (M : Mem) : Option ((Nat ⊕ Int) × Mem) :=
  cx1 (f_X11_needOrder x1 M) (fun e_3 => some (.inl e_3, M)) (fun r_1 => cx1 (f_X11_needItem x2 M) (fun e_6 => some (.inl e_6, M)) (fun r_4 => cx1 (f_X11_needArgument x3 1 99 M) (fun e_9 => some (.inl e_9, M)) (fun r_7 => gi x1 16 ((if w32 (M 12 (ix x1)) = 0 then gi x1 16 ((if w32 (M 13 (ix x1)) < 6 then cl1 (f_X5_hasItem 10 x1 x2 M) (fun r_12 => (if w32 r_12 = 0 then cl2 (f_X5_appendLine 10 x1 x2 x3 M) (fun r_14 M_15 => some (.inr r_14, M_15)) else j_X11_addLine_58 M)) else j_X11_addLine_58 M)) else j_X11_addLine_58 M)))))
noncomputable def f_X11_orderState  (x1 : Int) (M : Mem) : Option ((Nat ⊕ Int)) :=
  cx1 (f_X11_needOrder x1 M) (fun e_3 => some (.inl e_3)) (fun r_1 => gi x1 16 (some (.inr (M 12 (ix x1)))))
noncomputable def f_X11_lineCount  (x1 : Int) (M : Mem) : Option ((Nat ⊕ Int)) :=
  cx1 (f_X11_needOrder x1 M) (fun e_3 => some (.inl e_3)) (fun r_1 => gi x1 16 (some (.inr (M 13 (ix x1)))))
noncomputable def f_X11_due  (x1 : Int) (M : Mem) : Option ((Nat ⊕ Int)) :=
  cx1 (f_X11_needOrder x1 M) (fun e_3 => some (.inl e_3)) (fun r_1 => gi x1 16 (some (.inr (M 11 (ix x1)))))
noncomputable def f_X11_setDue  (x1 : Int) (x2 : Int) (M : Mem) : Option ((Nat ⊕ Int) × Mem) :=
  cx1 (f_X11_needOrder x1 M) (fun e_3 => some (.inl e_3, M)) (fun r_1 => cx1 (f_X11_needArgument x2 0 9999 M) (fun e_6 => some (.inl e_6, M)) (fun r_4 => cx1 (f_X11_needUnfinished x1 M) (fun e_9 => some (.inl e_9, M)) (fun r_7 => gi x1 16 (bnd (M 11 (ix x1)) (fun x3_11 => gi x1 16 (bnd (upd2 M 11 (ix x1) x2) (fun M_12 => some (.inr x3_11, M_12))))))))
noncomputable def f_X11_orderWeight  (x1 : Int) (M : Mem) : Option ((Nat ⊕ Int)) :=
  cx1 (f_X11_needOrder x1 M) (fun e_3 => some (.inl e_3)) (fun r_1 => cl1 (f_X1_weightOf 1 x1 M) (fun r_4 => some (.inr r_4)))
noncomputable def f_X11_orderAisles  (x1 : Int) (M : Mem) : Option ((Nat ⊕ Int)) :=
  cx1 (f_X11_needOrder x1 M) (fun e_3 => some (.inl e_3)) (fun r_1 => cl1 (f_X1_aislesOf 1 x1 M) (fun r_4 => some (.inr r_4)))
noncomputable def j_X11_addBatch_19   (M : Mem) : Option ((Nat ⊕ Int) × Mem) :=
  some (.inl 2, M)
noncomputable def j_X11_addBatch_55   (M : Mem) : Option ((Nat ⊕ Int) × Mem) :=
  some (.inl 1, M)
noncomputable def f_X11_addBatch  (x1 : Int) (M : Mem) : Option ((Nat ⊕ Int) × Mem) :=
  (if w32 x1 = 0 then j_X11_addBatch_19 M else (if w32 (i_shr x1 (M 10 0)) = 0 then (if w32 (M 17 0) < 8 then cl1 (f_X1_canBeBatched 1 x1 M) (fun r_1 => (if w32 r_1 = 0 then j_X11_addBatch_55 M else cl2 (f_X1_openBatch 1 x1 M) (fun r_3 M_4 => some (.inr r_3, M_4)))) else j_X11_addBatch_55 M) else j_X11_addBatch_19 M))
noncomputable def f_X11_dissolve  (x1 : Int) (M : Mem) : Option ((Nat ⊕ Int) × Mem) :=
  cx1 (f_X11_needBatch x1 M) (fun e_3 => some (.inl e_3, M)) (fun r_1 => gi x1 8 (cl1 (f_X5_setStates 10 (M 18 (ix x1)) 0 M) (fun M_6 => cl1 (f_X0_drop 17 x1 M_6) (fun M_8 => some (.inr (M_8 17 0), M_8)))))
noncomputable def f_X11_batchOrders  (x1 : Int) (M : Mem) : Option ((Nat ⊕ Int)) :=
  cx1 (f_X11_needBatch x1 M) (fun e_3 => some (.inl e_3)) (fun r_1 => gi x1 8 (some (.inr (M 18 (ix x1)))))
noncomputable def f_X11_batchWeight  (x1 : Int) (M : Mem) : Option ((Nat ⊕ Int)) :=
  cx1 (f_X11_needBatch x1 M) (fun e_3 => some (.inl e_3)) (fun r_1 => gi x1 8 (cl1 (f_X1_weightOfAll 1 (M 18 (ix x1)) M) (fun r_5 => some (.inr r_5))))
noncomputable def f_X11_zoneOf  (x1 : Int) (M : Mem) : Option ((Nat ⊕ Int)) :=
  cx1 (f_X11_needAisle x1 M) (fun e_3 => some (.inl e_3)) (fun r_1 => cl1 (f_X3_zoneWith 2 x1 M) (fun r_4 => some (.inr r_4)))
noncomputable def f_X11_stopCount  (x1 : Int) (x2 : Int) (M : Mem) : Option ((Nat ⊕ Int) × Mem) :=
  cx1 (f_X11_needBatch x1 M) (fun e_3 => some (.inl e_3, M)) (fun r_1 => cx1 (f_X11_needZone x2 M) (fun e_6 => some (.inl e_6, M)) (fun r_4 => gi x1 8 (cl1 (f_X6_survey 40 1 (M 18 (ix x1)) M) (fun M_9 => cl1 (f_X6_itemsIn 40 2 x2 M_9) (fun r_10 => some (.inr r_10, M_9))))))
noncomputable def f_X11_pickBatch  (M : Mem) : Option ((Nat ⊕ Int) × Mem) :=
  (if w32 (M 17 0) = 0 then some (.inl 1, M) else cl2 (f_X1_pickFirstBatch 1 M) (fun r_1 M_2 => some (.inr r_1, M_2)))
noncomputable def f_X11_totalPicked  (M : Mem) : Option (Int) :=
  cl1 (f_X5_pickedOfDone 10 M) (fun r_1 => some r_1)
noncomputable def f_X11_needLine  (x1 : Int) (x2 : Int) (M : Mem) : Option ((Nat ⊕ Unit)) :=
  cx1 (f_X11_needOrder x1 M) (fun e_3 => some (.inl e_3)) (fun r_1 => gi x1 16 (cx1 (f_X11_needIndex x2 (M 13 (ix x1)) M) (fun e_7 => some (.inl e_7)) (fun r_5 => some (.inr ()))))
noncomputable def f_X0_takeOut (th : Nat) (x1 : Int) (M : Mem) : Option (Mem) :=
  cl1 (f_X0_batchWith th x1 M) (fun r_1 => (if w32 r_1 = (-1) then some M else cl1 (f_X0_takeFrom th r_1 x1 M) (fun M_4 => some M_4)))
noncomputable def f_X0_move (th : Nat) (x1 : Int) (x2 : Int) (M : Mem) : Option (Mem) :=
  cl1 (f_X0_batchWith th x1 M) (fun r_1 => gi x2 8 (gi x2 8 (bnd (upd2 M (th + 1) (ix x2) (i_or (M (th + 1) (ix x2)) (i_shl 1 x1))) (fun M_4 => (if w32 r_1 = (-1) then some M_4 else (if w32 r_1 = w32 x2 then some M_4 else cl1 (f_X0_takeFrom th r_1 x1 M_4) (fun M_7 => some M_7)))))))
noncomputable def f_X3_reset (th : Nat) (M : Mem) : Option (Mem) :=
  cl1 (f_X3_build th 4 10 2 M) (fun M_2 => bnd (upd2 M_2 th 5 0) (fun M_3 => bnd (upd2 M_3 th 6 0) (fun M_4 => bnd (upd2 M_4 th 7 1) (fun M_5 => bnd (upd2 M_5 (th + 2) 0 1) (fun M_6 => bnd (upd2 M_6 (th + 2) 1 1) (fun M_7 => some M_7))))))
noncomputable def s_X5_shortOfDone_4 (th : Nat) (M : Mem) (x1 : Int) (x2 : Int) : Option ((Int × Int) ⊕ ((Int) ⊕ (Int))) :=
  (if w32 x2 < w32 (M th 0) then cl1 (f_X5_shortInAll th x2 M) (fun r_1 => bnd (x1 + r_1) (fun x1_3 => bnd (x2 + 1) (fun x2_4 => some (.inl (x1_3, x2_4))))) else some (.inr (.inl x1)))
noncomputable def f_X5_shortOfDone (th : Nat) (M : Mem) : Option (Int) :=
  lpb (wh (fun x => s_X5_shortOfDone_4 th M x.1 x.2) (0, 0)) (fun z_5 => some z_5) (fun q => some q)
noncomputable def f_X5_canBeRepeated (th : Nat) (x1 : Int) (M : Mem) : Option (Int) :=
  (if w32 (i_and (i_shr (M th 1) x1) 1) = 0 then cl1 (f_X5_shortInAll th x1 M) (fun r_1 => (if 0 < w32 r_1 then some 1 else some 0)) else some 0)
noncomputable def f_X6_lengthIn (th : Nat) (a1 : Nat) (x2 : Int) (x3 : Int) (M : Mem) : Option (Int × Mem) :=
  cl1 (f_X6_findAisles th a1 x2 M) (fun M_2 => (if w32 (M_2 th 6) = 0 then some (0, M_2) else gi ((M_2 th 6) - 1) 6 (bnd (M_2 (th + 5) (ix ((M_2 th 6) - 1))) (fun x4_4 => gi x2 3 (bnd ((2 * (M_2 a1 2)) * (x4_4 - (M_2 (a1 + 1) (ix x2)))) (fun x5_6 => (if w32 x3 = 1 then cl1 (f_X6_sShapeCost th M_2) (fun r_7 => some ((x5_6 + r_7), M_2)) else (if w32 x3 = 2 then cl2 (f_X6_largestGapCost th M_2) (fun r_9 M_10 => some ((x5_6 + r_9), M_10)) else (if w32 x3 = 3 then cl1 (f_X6_planCombined th M_2) (fun M_12 => some ((x5_6 + (M_12 (th + 6) 0)), M_12)) else cl1 (f_X6_returnCost th M_2) (fun r_13 => some ((x5_6 + r_13), M_2)))))))))))
noncomputable def s_X6_listReturn_2 (th : Nat) (a1 : Nat) (x2 : Int) (M : Mem) : Option ((Int × Mem) ⊕ ((Mem) ⊕ (Mem))) :=
  (if w32 x2 < w32 (M th 6) then gi x2 6 (cl1 (f_X6_visitUp th a1 (M (th + 5) (ix x2)) 20 M) (fun M_3 => bnd (x2 + 1) (fun x2_4 => some (.inl (x2_4, M_3))))) else some (.inr (.inl M)))
noncomputable def f_X6_listReturn (th : Nat) (a1 : Nat) (M : Mem) : Option (Mem) :=
  lpb (wh (fun x => s_X6_listReturn_2 th a1 x.1 x.2) (0, M)) (fun z_5 => some z_5) (fun q => some q)
noncomputable def f_X6_visitFrom (th : Nat) (a1 : Nat) (x2 : Int) (x3 : Int) (M : Mem) : Option (Mem) :=
  (if w32 x3 = 0 then cl1 (f_X6_visitUp th a1 x2 20 M) (fun M_2 => some M_2) else cl1 (f_X6_visitDown th a1 x2 1 M) (fun M_4 => some M_4))
noncomputable def j_X8_seedAmong_55_10 (a0 : Nat)  (x1 : Int) (x2 : Int) (x3 : Int) (x4 : Int) (x5 : Int) (M : Mem) : Option ((Int × Int × Int) ⊕ ((Int) ⊕ (Int))) :=
  bnd (x5 + 1) (fun x5_1 => some (.inl (x3, x4, x5_1)))
noncomputable def s_X8_seedAmong_10 (a0 : Nat) (x1 : Int) (x2 : Int) (M : Mem) (x3 : Int) (x4 : Int) (x5 : Int) : Option ((Int × Int × Int) ⊕ ((Int) ⊕ (Int))) :=
  (if w32 x5 < w32 (M (a0 + 9) 0) then (if w32 (i_and (i_shr x1 x5) 1) = 0 then j_X8_seedAmong_55_10 a0 x1 x2 x3 x4 x5 M else cl1 (f_X8_seedValue a0 x5 x2 M) (fun r_2 => (if w32 x4 < w32 r_2 then cl1 (f_X8_seedValue a0 x5 x2 M) (fun r_4 => j_X8_seedAmong_55_10 a0 x1 x2 x5 r_4 x5 M) else j_X8_seedAmong_55_10 a0 x1 x2 x3 x4 x5 M))) else some (.inr (.inl x3)))
noncomputable def f_X8_seedAmong (a0 : Nat) (x1 : Int) (x2 : Int) (M : Mem) : Option (Int) :=
  lpb (wh (fun x => s_X8_seedAmong_10 a0 x1 x2 M x.1 x.2.1 x.2.2) (0, (-10000), 0)) (fun z_6 => some z_6) (fun q => some q)
noncomputable def j_X8_companionFor_38_6 (a0 : Nat)  (x1 : Int) (x2 : Int) (x3 : Int) (x4 : Int) (x5 : Int) (M : Mem) : Option ((Int × Int) ⊕ ((Int) ⊕ (Int))) :=
  bnd (x5 + 1) (fun x5_1 => some (.inl (x4, x5_1)))
noncomputable def s_X8_companionFor_6 (a0 : Nat) (x1 : Int) (x2 : Int) (x3 : Int) (M : Mem) (x4 : Int) (x5 : Int) : Option ((Int × Int) ⊕ ((Int) ⊕ (Int))) :=
  (if w32 x5 < w32 (M (a0 + 9) 0) then (if w32 (i_and (i_shr x1 x5) 1) = 0 then j_X8_companionFor_38_6 a0 x1 x2 x3 x4 x5 M else cl1 (f_X1_aislesOf a0 x5 M) (fun r_2 => bnd (i_or x4 r_2) (fun x4_4 => j_X8_companionFor_38_6 a0 x1 x2 x3 x4_4 x5 M))) else some (.inr (.inl x4)))
noncomputable def j_X8_companionFor_147_63 (a0 : Nat)  (x2 : Int) (x4 : Int) (x5 : Int) (x6 : Int) (x7 : Int) (x8 : Int) (M : Mem) : Option ((Int × Int × Int) ⊕ ((Int) ⊕ (Int))) :=
  bnd (x8 + 1) (fun x8_9 => some (.inl (x6, x7, x8_9)))
noncomputable def s_X8_companionFor_63 (a0 : Nat) (x2 : Int) (x4 : Int) (x5 : Int) (M : Mem) (x6 : Int) (x7 : Int) (x8 : Int) : Option ((Int × Int × Int) ⊕ ((Int) ⊕ (Int))) :=
  (if w32 x8 < w32 (M (a0 + 9) 0) then (if w32 (i_and (i_shr x2 x8) 1) = 0 then j_X8_companionFor_147_63 a0 x2 x4 x5 x6 x7 x8 M else cl1 (f_X1_weightOf a0 x8 M) (fun r_10 => (if w32 x5 < w32 r_10 then j_X8_companionFor_147_63 a0 x2 x4 x5 x6 x7 x8 M else cl1 (f_X1_aislesOf a0 x8 M) (fun r_12 => cl1 (f_J6_bitCount_0f7a4 (i_and r_12 (i_xor x4 (-1))) M) (fun r_14 => gi x8 16 (bnd ((r_14 * 10000) + (M (a0 + 9 + 1) (ix x8))) (fun x10_17 => (if w32 x10_17 < w32 x7 then bnd (i_shl 1 x8) (fun x6_18 => j_X8_companionFor_147_63 a0 x2 x4 x5 x6_18 x10_17 x8 M) else j_X8_companionFor_147_63 a0 x2 x4 x5 x6 x7 x8 M)))))))) else some (.inr (.inl x6)))
noncomputable def f_X8_companionFor (a0 : Nat) (x1 : Int) (x2 : Int) (x3 : Int) (M : Mem) : Option (Int) :=
  lpb (wh (fun x => s_X8_companionFor_6 a0 x1 x2 x3 M x.1 x.2) (0, 0)) (fun z_5 => cl1 (f_X1_weightOfAll a0 x1 M) (fun r_6 => bnd (x3 - r_6) (fun x5_8 => lpb (wh (fun x => s_X8_companionFor_63 a0 x2 z_5 x5_8 M x.1 x.2.1 x.2.2) (0, 1000000000, 0)) (fun z_19 => some z_19) (fun q => some q)))) (fun q => some q)
noncomputable def j_X10_readNumber_35   (M : Mem) : Option (Int × Mem) :=
  some (1, M)
noncomputable def f_X10_readNumber  (x1 : Int) (x2 : Int) (M : Mem) : Option (Int × Mem) :=
  cl1 (f_X10_nextToken M) (fun M_2 => (if w32 (M_2 38 4) = 2 then cl1 (f_X10_isWithin x1 x2 M_2) (fun r_3 => (if w32 r_3 = 0 then cl2 (f_X10_fail 2 M_2) (fun r_5 M_6 => (if w32 r_5 = 0 then some (0, M_6) else j_X10_readNumber_35 M_6)) else j_X10_readNumber_35 M_2)) else cl2 (f_X10_fail 1 M_2) (fun r_7 M_8 => gz r_7 (some (r_7, M_8)))))
noncomputable def j_X10_readSemicolon_20   (M : Mem) : Option (Int × Mem) :=
  some (1, M)
noncomputable def f_X10_readSemicolon  (M : Mem) : Option (Int × Mem) :=
  cl1 (f_X10_nextToken M) (fun M_2 => (if w32 (M_2 38 4) = 3 then j_X10_readSemicolon_20 M_2 else cl2 (f_X10_fail 1 M_2) (fun r_3 M_4 => (if w32 r_3 = 0 then some (0, M_4) else j_X10_readSemicolon_20 M_4))))
noncomputable def f_X11_cancel  (x1 : Int) (M : Mem) : Option ((Nat ⊕ Int) × Mem) :=
  cx1 (f_X11_needOrder x1 M) (fun e_3 => some (.inl e_3, M)) (fun r_1 => cx1 (f_X11_needUnfinished x1 M) (fun e_6 => some (.inl e_6, M)) (fun r_4 => cl1 (f_X0_takeOut 17 x1 M) (fun M_8 => gi x1 16 (bnd (upd2 M_8 12 (ix x1) 3) (fun M_9 => some (.inr (M_9 17 0), M_9))))))
noncomputable def f_X11_routeLength  (x1 : Int) (x2 : Int) (x3 : Int) (M : Mem) : Option ((Nat ⊕ Int) × Mem) :=
  cx1 (f_X11_needBatch x1 M) (fun e_3 => some (.inl e_3, M)) (fun r_1 => cx1 (f_X11_needZone x2 M) (fun e_6 => some (.inl e_6, M)) (fun r_4 => cx1 (f_X11_needArgument x3 0 3 M) (fun e_9 => some (.inl e_9, M)) (fun r_7 => gi x1 8 (cl1 (f_X6_survey 40 1 (M 18 (ix x1)) M) (fun M_12 => cl2 (f_X6_lengthIn 40 2 x2 x3 M_12) (fun r_13 M_14 => some (.inr r_13, M_14)))))))
noncomputable def f_X11_pickedUnits  (x1 : Int) (x2 : Int) (M : Mem) : Option ((Nat ⊕ Int)) :=
  cx1 (f_X11_needLine x1 x2 M) (fun e_3 => some (.inl e_3)) (fun r_1 => cl1 (f_X5_pickedIn 10 x1 x2 M) (fun r_4 => some (.inr r_4)))
noncomputable def f_X11_shortUnits  (x1 : Int) (x2 : Int) (M : Mem) : Option ((Nat ⊕ Int)) :=
  cx1 (f_X11_needLine x1 x2 M) (fun e_3 => some (.inl e_3)) (fun r_1 => cl1 (f_X5_shortIn 10 x1 x2 M) (fun r_4 => some (.inr r_4)))
noncomputable def f_X11_totalOrdered  (M : Mem) : Option (Int) :=
  cl1 (f_X5_pickedOfDone 10 M) (fun r_1 => cl1 (f_X5_shortOfDone 10 M) (fun r_3 => some (r_1 + r_3)))
noncomputable def f_X11_reorder  (x1 : Int) (x2 : Int) (M : Mem) : Option ((Nat ⊕ Int) × Mem) :=
  cx1 (f_X11_needOrder x1 M) (fun e_3 => some (.inl e_3, M)) (fun r_1 => cx1 (f_X11_needArgument x2 0 9999 M) (fun e_6 => some (.inl e_6, M)) (fun r_4 => cl1 (f_X5_canBeRepeated 10 x1 M) (fun r_7 => (if w32 r_7 = 0 then some (.inl 1, M) else cx1 (f_X11_needRoomForOrder M) (fun e_11 => some (.inl e_11, M)) (fun r_9 => cl2 (f_X5_repeatShort 10 x1 x2 M) (fun r_12 M_13 => some (.inr r_12, M_13)))))))
noncomputable def f_X1_reset (th : Nat) (M : Mem) : Option (Mem) :=
  cl1 (f_X3_reset (th + 1) M) (fun M_2 => bnd (upd2 M_2 (th + 4) 0 0) (fun M_3 => bnd (upd2 M_3 (th + 9) 0 0) (fun M_4 => bnd (upd2 M_4 (th + 9) 1 0) (fun M_5 => bnd (upd2 M_5 (th + 16) 0 0) (fun M_6 => some M_6)))))
noncomputable def s_X6_lengthFor_12 (th : Nat) (a1 : Nat) (x3 : Int) (x4 : Int) (x5 : Int) (M : Mem) : Option ((Int × Int × Mem) ⊕ ((Int × Mem) ⊕ (Int × Mem))) :=
  (if w32 x5 < w32 (M (a1 + 1) 3) then cl2 (f_X6_lengthIn th (a1 + 1) x5 x3 M) (fun r_3 M_4 => bnd (x4 + r_3) (fun x4_5 => bnd (x5 + 1) (fun x5_6 => some (.inl (x4_5, x5_6, M_4))))) else some (.inr (.inl (x4, M))))
noncomputable def f_X6_lengthFor (th : Nat) (a1 : Nat) (x2 : Int) (x3 : Int) (M : Mem) : Option (Int × Mem) :=
  cl1 (f_X6_survey th a1 x2 M) (fun M_2 => lpb (wh (fun x => s_X6_lengthFor_12 th a1 x3 x.1 x.2.1 x.2.2) (0, 0, M_2)) (fun z_7 => some (z_7.1, z_7.2)) (fun q => some q))
noncomputable def j_X6_listSShape_29_2 (th : Nat) (a1 : Nat)  (x2 : Int) (y2 : Int) (y3 : Int) (M : Mem) : Option ((Int × Mem) ⊕ ((Mem) ⊕ (Mem))) :=
  cl1 (f_X6_visitFrom th a1 y2 y3 M) (fun M_3 => bnd (x2 + 1) (fun x2_4 => some (.inl (x2_4, M_3))))
noncomputable def s_X6_listSShape_2 (th : Nat) (a1 : Nat) (x2 : Int) (M : Mem) : Option ((Int × Mem) ⊕ ((Mem) ⊕ (Mem))) :=
  (if w32 x2 < w32 (M th 6) then gi x2 6 ((if w32 (i_rem x2 2) = 0 then j_X6_listSShape_29_2 th a1 x2 (M (th + 5) (ix x2)) 0 M else j_X6_listSShape_29_2 th a1 x2 (M (th + 5) (ix x2)) 1 M)) else some (.inr (.inl M)))
noncomputable def f_X6_listSShape (th : Nat) (a1 : Nat) (M : Mem) : Option (Mem) :=
  lpb (wh (fun x => s_X6_listSShape_2 th a1 x.1 x.2) (0, M)) (fun z_5 => some z_5) (fun q => some q)
noncomputable def s_X6_listLargestGap_28 (th : Nat) (a1 : Nat) (x2 : Int) (M : Mem) : Option ((Int × Mem) ⊕ ((Mem) ⊕ (Mem))) :=
  (if w32 x2 < w32 ((M th 6) - 1) then gi x2 6 (cl1 (f_X6_findLargestGap th (M (th + 5) (ix x2)) M) (fun M_7 => gi x2 6 (cl1 (f_X6_visitDown th a1 (M_7 (th + 5) (ix x2)) ((M_7 th 8) + 1) M_7) (fun M_10 => bnd (x2 + 1) (fun x2_11 => some (.inl (x2_11, M_10))))))) else some (.inr (.inl M)))
noncomputable def s_X6_listLargestGap_95 (th : Nat) (a1 : Nat) (x2 : Int) (M : Mem) : Option ((Int × Mem) ⊕ ((Mem) ⊕ (Mem))) :=
  (if w32 x2 < 1 then some (.inr (.inl M)) else gi x2 6 (cl1 (f_X6_findLargestGap th (M (th + 5) (ix x2)) M) (fun M_19 => gi x2 6 (cl1 (f_X6_visitUp th a1 (M_19 (th + 5) (ix x2)) (M_19 th 8) M_19) (fun M_22 => bnd (x2 + (-1)) (fun x2_23 => some (.inl (x2_23, M_22))))))))
noncomputable def f_X6_listLargestGap (th : Nat) (a1 : Nat) (M : Mem) : Option (Mem) :=
  (if w32 (M th 6) < 2 then cl1 (f_X6_listReturn th a1 M) (fun M_2 => some M_2) else cl1 (f_X6_visitFrom th a1 (M (th + 5) 0) 0 M) (fun M_4 => lpb (wh (fun x => s_X6_listLargestGap_28 th a1 x.1 x.2) (1, M_4)) (fun z_12 => gi ((z_12 th 6) - 1) 6 (cl1 (f_X6_visitFrom th a1 (z_12 (th + 5) (ix ((z_12 th 6) - 1))) 1 z_12) (fun M_15 => bnd ((M_15 th 6) - 2) (fun x2_16 => lpb (wh (fun x => s_X6_listLargestGap_95 th a1 x.1 x.2) (x2_16, M_15)) (fun z_24 => some z_24) (fun q => some q))))) (fun q => some q)))
noncomputable def j_X6_listCombined_49_4 (th : Nat) (a1 : Nat)  (x2 : Int) (x3 : Int) (M : Mem) : Option ((Int × Int × Mem) ⊕ ((Mem) ⊕ (Mem))) :=
  bnd (x3 + 1) (fun x3_8 => some (.inl (x2, x3_8, M)))
noncomputable def j_X6_listCombined_48_4 (th : Nat) (a1 : Nat)  (x3 : Int) (y0 : Int) (M : Mem) : Option ((Int × Int × Mem) ⊕ ((Mem) ⊕ (Mem))) :=
  j_X6_listCombined_49_4 th a1 y0 x3 M
noncomputable def s_X6_listCombined_4 (th : Nat) (a1 : Nat) (x2 : Int) (x3 : Int) (M : Mem) : Option ((Int × Int × Mem) ⊕ ((Mem) ⊕ (Mem))) :=
  (if w32 x3 < w32 (M th 6) then gi x3 6 (cl1 (f_X6_visitFrom th a1 (M (th + 5) (ix x3)) x2 M) (fun M_3 => cl1 (f_X6_crossingCost th x3 x2 M_3) (fun r_4 => cl1 (f_X6_stayingCost th x3 x2 M_3) (fun r_6 => (if w32 r_4 < w32 r_6 then (if w32 x2 = 0 then j_X6_listCombined_48_4 th a1 x3 1 M_3 else j_X6_listCombined_48_4 th a1 x3 0 M_3) else j_X6_listCombined_49_4 th a1 x2 x3 M_3))))) else some (.inr (.inl M)))
noncomputable def f_X6_listCombined (th : Nat) (a1 : Nat) (M : Mem) : Option (Mem) :=
  lpb (wh (fun x => s_X6_listCombined_4 th a1 x.1 x.2.1 x.2.2) (0, 0, M)) (fun z_9 => some z_9) (fun q => some q)
noncomputable def j_X7_measureWork_107_38 (th : Nat) (a1 : Nat) (q0 : Nat) (x3 : Int) (x4 : Int) (y1 : Int) (y2 : Int) (M : Mem) : Option ((Int × Mem) ⊕ ((Mem) ⊕ (Mem))) :=
  gi y1 3 (bnd (upd2 M q0 (ix y1) y2) (fun M_9 => bnd (x4 + 1) (fun x4_11 => some (.inl (x4_11, M_9)))))
noncomputable def s_X7_measureWork_38 (th : Nat) (a1 : Nat) (x3 : Int) (x4 : Int) (M : Mem) : Option ((Int × Mem) ⊕ ((Mem) ⊕ (Mem))) :=
  (if w32 x4 < w32 (M (a1 + 1) 3) then cl1 (f_X6_itemsIn (th + 28) (a1 + 1) x4 M) (fun r_4 => cl2 (f_X6_lengthIn (th + 28) (a1 + 1) x4 (M (a1 + 1) 5) M) (fun r_6 M_7 => gi x3 8 ((if w32 r_4 = 0 then j_X7_measureWork_107_38 th a1 (th + 1 + 1 + ix x3) x3 x4 x4 0 M_7 else j_X7_measureWork_107_38 th a1 (th + 1 + 1 + ix x3) x3 x4 x4 (((M_7 (a1 + 1) 6) + r_6) + ((M_7 (a1 + 1) 7) * r_4)) M_7)))) else some (.inr (.inl M)))
noncomputable def s_X7_measureWork_7 (th : Nat) (a1 : Nat) (x3 : Int) (M : Mem) : Option ((Int × Mem) ⊕ ((Mem) ⊕ (Mem))) :=
  (if w32 x3 < w32 (M (a1 + 16) 0) then gi x3 8 (cl1 (f_X6_survey (th + 28) a1 (M (a1 + 16 + 1) (ix x3)) M) (fun M_3 => lpb (wh (fun x => s_X7_measureWork_38 th a1 x3 x.1 x.2) (0, M_3)) (fun z_12 => bnd (x3 + 1) (fun x3_13 => some (.inl (x3_13, z_12)))) (fun q => some (.inr (.inr q))))) else some (.inr (.inl M)))
noncomputable def f_X7_measureWork (th : Nat) (a1 : Nat) (M : Mem) : Option (Mem) :=
  lpb (wh (fun x => s_X7_measureWork_7 th a1 x.1 x.2) (0, M)) (fun z_14 => some z_14) (fun q => some q)
noncomputable def s_X8_makeAll_48 (a0 : Nat) (x1 : Int) (x2 : Int) (x3 : Int) (x4 : Int) (x5 : Int) (M : Mem) (x6 : Int) (x7 : Int) : Option ((Int × Int) ⊕ ((Int) ⊕ (Int × Mem))) :=
  (if w32 x7 < w32 x1 then cl1 (f_X8_companionFor a0 x6 (i_and x4 (i_xor x6 (-1))) x2 M) (fun r_6 => bnd (i_or x6 r_6) (fun x6_8 => bnd (x7 + 1) (fun x7_9 => some (.inl (x6_8, x7_9))))) else some (.inr (.inl x6)))
noncomputable def s_X8_makeAll_10 (a0 : Nat) (x1 : Int) (x2 : Int) (x3 : Int) (x4 : Int) (x5 : Int) (M : Mem) : Option ((Int × Int × Mem) ⊕ ((Int × Mem) ⊕ (Int × Mem))) :=
  (if w32 x5 < 8 then (if w32 x4 = 0 then some (.inr (.inl (x5, M))) else (if w32 (M (a0 + 16) 0) < 8 then cl1 (f_X8_seedAmong a0 x4 x3 M) (fun r_3 => bnd (i_shl 1 r_3) (fun x6_5 => lpb (wh (fun x => s_X8_makeAll_48 a0 x1 x2 x3 x4 x5 M x.1 x.2) (x6_5, 1)) (fun z_10 => bnd (i_and x4 (i_xor z_10 (-1))) (fun x4_11 => cl2 (f_X1_openBatch a0 z_10 M) (fun r_12 M_13 => bnd (x5 + 1) (fun x5_14 => some (.inl (x4_11, x5_14, M_13)))))) (fun q => some (.inr (.inr q))))) else some (.inr (.inl (x5, M))))) else some (.inr (.inl (x5, M))))
noncomputable def f_X8_makeAll (a0 : Nat) (x1 : Int) (x2 : Int) (x3 : Int) (M : Mem) : Option (Int × Mem) :=
  cl1 (f_X8_candidatesIn a0 x2 M) (fun r_1 => lpb (wh (fun x => s_X8_makeAll_10 a0 x1 x2 x3 x.1 x.2.1 x.2.2) (r_1, 0, M)) (fun z_15 => some (z_15.1, z_15.2)) (fun q => some q))
noncomputable def f_X10_readItem (a1 : Nat) (M : Mem) : Option (Int × Mem) :=
  (if w32 (M (a1 + 4) 0) < 24 then cl2 (f_X10_readNumber 0 ((M (a1 + 1) 0) - 1) M) (fun r_1 M_2 => (if w32 r_1 = 0 then some (0, M_2) else bnd (M_2 38 7) (fun x2_3 => cl2 (f_X10_readNumber 1 (M_2 (a1 + 1) 1) M_2) (fun r_4 M_5 => (if w32 r_4 = 0 then some (0, M_5) else bnd (M_5 38 7) (fun x3_6 => cl2 (f_X10_readNumber 1 50 M_5) (fun r_7 M_8 => (if w32 r_7 = 0 then some (0, M_8) else bnd (M_8 38 7) (fun x4_9 => cl2 (f_X10_readNumber 0 999 M_8) (fun r_10 M_11 => (if w32 r_10 = 0 then some (0, M_11) else cl2 (f_X2_append (a1 + 4) x2_3 x3_6 x4_9 (M_11 38 7) M_11) (fun r_12 M_13 => cl2 (f_X10_readSemicolon M_13) (fun r_14 M_15 => gz r_14 (some (r_14, M_15))))))))))))))) else cl2 (f_X10_fail 3 M) (fun r_17 M_18 => gz r_17 (some (r_17, M_18))))
noncomputable def j_X10_readZones_88 (a1 : Nat)  (M : Mem) : Option (Int × Mem) :=
  some (1, M)
noncomputable def j_X10_readZones_66 (a1 : Nat)  (x2 : Int) (x3 : Int) (M : Mem) : Option (Int × Mem) :=
  cl1 (f_X3_divide a1 x2 x3 M) (fun M_15 => (if w32 (M_15 38 4) = 3 then j_X10_readZones_88 a1 M_15 else cl2 (f_X10_fail 1 M_15) (fun r_16 M_17 => (if w32 r_16 = 0 then some (0, M_17) else j_X10_readZones_88 a1 M_17))))
noncomputable def f_X10_readZones (a1 : Nat) (M : Mem) : Option (Int × Mem) :=
  cl2 (f_X10_readNumber 1 ((M a1 0) - 1) M) (fun r_1 M_2 => (if w32 r_1 = 0 then some (0, M_2) else bnd (M_2 38 7) (fun x2_3 => cl1 (f_X10_nextToken M_2) (fun M_5 => (if w32 (M_5 38 4) = 2 then cl1 (f_X10_isWithin (x2_3 + 1) ((M_5 a1 0) - 1) M_5) (fun r_6 => (if w32 r_6 = 0 then cl2 (f_X10_fail 2 M_5) (fun r_8 M_9 => gz r_8 (some (r_8, M_9))) else bnd (M_5 38 7) (fun x3_11 => cl1 (f_X10_nextToken M_5) (fun M_13 => j_X10_readZones_66 a1 x2_3 x3_11 M_13)))) else j_X10_readZones_66 a1 x2_3 (-1) M_5)))))
noncomputable def f_X10_readBuffer (a1 : Nat) (M : Mem) : Option (Int × Mem) :=
  cl2 (f_X10_readNumber 0 1 M) (fun r_1 M_2 => (if w32 r_1 = 0 then some (0, M_2) else bnd (M_2 38 7) (fun x2_3 => cl2 (f_X10_readNumber 0 4 M_2) (fun r_4 M_5 => (if w32 r_4 = 0 then some (0, M_5) else gi x2_3 2 (bnd (upd2 M_5 (a1 + 2) (ix x2_3) (M_5 38 7)) (fun M_6 => cl2 (f_X10_readSemicolon M_6) (fun r_8 M_9 => gz r_8 (some (r_8, M_9))))))))))
noncomputable def f_X10_readTimes (a1 : Nat) (M : Mem) : Option (Int × Mem) :=
  cl2 (f_X10_readNumber 0 99 M) (fun r_1 M_2 => (if w32 r_1 = 0 then some (0, M_2) else bnd (upd2 M_2 a1 6 (M_2 38 7)) (fun M_3 => cl2 (f_X10_readNumber 0 99 M_3) (fun r_4 M_5 => (if w32 r_4 = 0 then some (0, M_5) else bnd (upd2 M_5 a1 7 (M_5 38 7)) (fun M_6 => cl2 (f_X10_readSemicolon M_6) (fun r_7 M_8 => gz r_7 (some (r_7, M_8)))))))))
noncomputable def f_X11_makeBatches  (x1 : Int) (x2 : Int) (x3 : Int) (M : Mem) : Option ((Nat ⊕ Int) × Mem) :=
  cx1 (f_X11_needBatchLimits x1 x2 M) (fun e_3 => some (.inl e_3, M)) (fun r_1 => cx1 (f_X11_needArgument x3 0 2 M) (fun e_6 => some (.inl e_6, M)) (fun r_4 => cl2 (f_X8_makeAll 1 x1 x2 x3 M) (fun r_7 M_8 => some (.inr r_7, M_8))))
noncomputable def f_X11_batchRoute  (x1 : Int) (M : Mem) : Option ((Nat ⊕ Int) × Mem) :=
  cx1 (f_X11_needBatch x1 M) (fun e_3 => some (.inl e_3, M)) (fun r_1 => gi x1 8 (cl2 (f_X6_lengthFor 40 1 (M 18 (ix x1)) (M 2 5) M) (fun r_5 M_6 => some (.inr r_5, M_6))))
noncomputable def j_X11_bestPolicy_74_38   (x2 : Int) (x3 : Int) (x4 : Int) (x5 : Int) (M : Mem) : Option ((Int × Int × Int × Mem) ⊕ ((Int × Mem) ⊕ ((Nat ⊕ Int) × Mem))) :=
  bnd (x5 + 1) (fun x5_10 => some (.inl (x3, x4, x5_10, M)))
noncomputable def s_X11_bestPolicy_38  (x2 : Int) (x3 : Int) (x4 : Int) (x5 : Int) (M : Mem) : Option ((Int × Int × Int × Mem) ⊕ ((Int × Mem) ⊕ ((Nat ⊕ Int) × Mem))) :=
  (if 3 < w32 x5 then some (.inr (.inl (x3, M))) else cl2 (f_X6_lengthFor 40 1 x2 x5 M) (fun r_8 M_9 => (if w32 r_8 < w32 x4 then j_X11_bestPolicy_74_38 x2 x5 r_8 x5 M_9 else j_X11_bestPolicy_74_38 x2 x3 x4 x5 M_9)))
noncomputable def f_X11_bestPolicy  (x1 : Int) (M : Mem) : Option ((Nat ⊕ Int) × Mem) :=
  cx1 (f_X11_needBatch x1 M) (fun e_3 => some (.inl e_3, M)) (fun r_1 => gi x1 8 (bnd (M 18 (ix x1)) (fun x2_5 => cl2 (f_X6_lengthFor 40 1 x2_5 0 M) (fun r_6 M_7 => lpb (wh (fun x => s_X11_bestPolicy_38 x2_5 x.1 x.2.1 x.2.2.1 x.2.2.2) (0, r_6, 1, M_7)) (fun z_11 => some (.inr z_11.1, z_11.2)) (fun q => some q)))))
noncomputable def s_X11_savedDistance_4  (x1 : Int) (x2 : Int) (M : Mem) : Option ((Int × Int × Mem) ⊕ ((Int × Mem) ⊕ (Int × Mem))) :=
  (if w32 x2 < w32 (M 17 0) then gi x2 8 (cl2 (f_X6_lengthFor 40 1 (M 18 (ix x2)) (M 2 5) M) (fun r_2 M_3 => bnd (x1 - r_2) (fun x1_4 => bnd (x2 + 1) (fun x2_5 => some (.inl (x1_4, x2_5, M_3)))))) else some (.inr (.inl (x1, M))))
noncomputable def j_X11_savedDistance_119_62   (x1 : Int) (x2 : Int) (M : Mem) : Option ((Int × Int × Mem) ⊕ ((Int × Mem) ⊕ (Int × Mem))) :=
  bnd (x2 + 1) (fun x2_11 => some (.inl (x1, x2_11, M)))
noncomputable def s_X11_savedDistance_62  (x1 : Int) (x2 : Int) (M : Mem) : Option ((Int × Int × Mem) ⊕ ((Int × Mem) ⊕ (Int × Mem))) :=
  (if w32 x2 < w32 (M 10 0) then gi x2 16 ((if w32 (M 12 (ix x2)) = 1 then cl2 (f_X6_lengthFor 40 1 (i_shl 1 x2) (M 2 5) M) (fun r_8 M_9 => bnd (x1 + r_8) (fun x1_10 => j_X11_savedDistance_119_62 x1_10 x2 M_9)) else j_X11_savedDistance_119_62 x1 x2 M)) else some (.inr (.inl (x1, M))))
noncomputable def f_X11_savedDistance  (M : Mem) : Option (Int × Mem) :=
  lpb (wh (fun x => s_X11_savedDistance_4 x.1 x.2.1 x.2.2) (0, 0, M)) (fun z_6 => lpb (wh (fun x => s_X11_savedDistance_62 x.1 x.2.1 x.2.2) (z_6.1, 0, z_6.2)) (fun z_12 => some (z_12.1, z_12.2)) (fun q => some q)) (fun q => some q)
noncomputable def f_X11_workTime  (x1 : Int) (x2 : Int) (M : Mem) : Option ((Nat ⊕ Int) × Mem) :=
  cx1 (f_X11_needBatch x1 M) (fun e_3 => some (.inl e_3, M)) (fun r_1 => cx1 (f_X11_needZone x2 M) (fun e_6 => some (.inl e_6, M)) (fun r_4 => cl1 (f_X7_measureWork 49 1 M) (fun M_8 => gi x1 8 (gi x2 3 (some (.inr (M_8 (50 + 1 + ix x1) (ix x2)), M_8))))))
noncomputable def s_X4_measureBatches_2 (a1 : Nat) (x2 : Int) (M : Mem) : Option ((Int × Mem) ⊕ ((Mem) ⊕ (Mem))) :=
  (if w32 x2 < w32 (M (a1 + 16) 0) then gi x2 8 (cl2 (f_X6_lengthFor 87 a1 (M (a1 + 16 + 1) (ix x2)) (M (a1 + 1) 5) M) (fun r_2 M_3 => gi x2 8 (bnd (upd2 M_3 96 (ix x2) r_2) (fun M_4 => bnd (x2 + 1) (fun x2_6 => some (.inl (x2_6, M_4))))))) else some (.inr (.inl M)))
noncomputable def f_X4_measureBatches (a1 : Nat) (M : Mem) : Option (Mem) :=
  lpb (wh (fun x => s_X4_measureBatches_2 a1 x.1 x.2) (0, M)) (fun z_7 => some z_7) (fun q => some q)
noncomputable def j_X4_tryMoves_171_65 (a1 : Nat)  (x2 : Int) (x3 : Int) (x4 : Int) (x5 : Int) (x7 : Int) (x8 : Int) (M : Mem) : Option ((Int × Mem) ⊕ ((Mem) ⊕ (Mem))) :=
  bnd (x8 + 1) (fun x8_13 => some (.inl (x8_13, M)))
noncomputable def j_X4_tryMoves_118_65 (a1 : Nat)  (x2 : Int) (x3 : Int) (x4 : Int) (x5 : Int) (x7 : Int) (x8 : Int) (x9 : Int) (y0 : Int) (M : Mem) : Option ((Int × Mem) ⊕ ((Mem) ⊕ (Mem))) :=
  (if w32 x8 = w32 x5 then j_X4_tryMoves_171_65 a1 x2 x3 x4 x5 x7 x8 M else (if w32 y0 = 0 then j_X4_tryMoves_171_65 a1 x2 x3 x4 x5 x7 x8 M else cl2 (f_X6_lengthFor 87 a1 x9 (M (a1 + 1) 5) M) (fun r_14 M_15 => gi x8 8 (bnd (r_14 - (M_15 96 (ix x8))) (fun x11_17 => cl1 (f_X4_keepBetter (x7 - x11_17) x2 x8 M_15) (fun M_19 => j_X4_tryMoves_171_65 a1 x2 x3 x4 x5 x7 x8 M_19))))))
noncomputable def j_X4_tryMoves_117_65 (a1 : Nat)  (x2 : Int) (x3 : Int) (x4 : Int) (x5 : Int) (x7 : Int) (x8 : Int) (x9 : Int) (M : Mem) : Option ((Int × Mem) ⊕ ((Mem) ⊕ (Mem))) :=
  j_X4_tryMoves_118_65 a1 x2 x3 x4 x5 x7 x8 x9 0 M
noncomputable def s_X4_tryMoves_65 (a1 : Nat) (x2 : Int) (x3 : Int) (x4 : Int) (x5 : Int) (x7 : Int) (x8 : Int) (M : Mem) : Option ((Int × Mem) ⊕ ((Mem) ⊕ (Mem))) :=
  (if w32 x8 < w32 (M (a1 + 16) 0) then gi x8 8 (bnd (i_or (M (a1 + 16 + 1) (ix x8)) (i_shl 1 x2)) (fun x9_10 => cl1 (f_J6_bitCount_0f7a4 x9_10 M) (fun r_11 => (if w32 x3 < w32 r_11 then j_X4_tryMoves_117_65 a1 x2 x3 x4 x5 x7 x8 x9_10 M else cl1 (f_X1_weightOfAll a1 x9_10 M) (fun r_20 => (if w32 x4 < w32 r_20 then j_X4_tryMoves_117_65 a1 x2 x3 x4 x5 x7 x8 x9_10 M else j_X4_tryMoves_118_65 a1 x2 x3 x4 x5 x7 x8 x9_10 1 M)))))) else some (.inr (.inl M)))
noncomputable def f_X4_tryMoves (a1 : Nat) (x2 : Int) (x3 : Int) (x4 : Int) (M : Mem) : Option (Mem) :=
  cl1 (f_X0_batchWith (a1 + 16) x2 M) (fun r_1 => (if w32 r_1 = (-1) then some M else gi r_1 8 (bnd (i_and (M (a1 + 16 + 1) (ix r_1)) (i_xor (i_shl 1 x2) (-1))) (fun x6_4 => gi r_1 8 (cl2 (f_X6_lengthFor 87 a1 x6_4 (M (a1 + 1) 5) M) (fun r_6 M_7 => bnd ((M 96 (ix r_1)) - r_6) (fun x7_8 => lpb (wh (fun x => s_X4_tryMoves_65 a1 x2 x3 x4 r_1 x7_8 x.1 x.2) (0, M_7)) (fun z_22 => some z_22) (fun q => some q))))))))
noncomputable def f_X6_listStops (th : Nat) (a1 : Nat) (x2 : Int) (M : Mem) : Option (Mem) :=
  cl1 (f_X6_findAisles th (a1 + 1) x2 M) (fun M_2 => bnd (upd2 M_2 th 12 0) (fun M_3 => (if w32 (M_3 (a1 + 1) 5) = 1 then cl1 (f_X6_listSShape th a1 M_3) (fun M_5 => some M_5) else (if w32 (M_3 (a1 + 1) 5) = 2 then cl1 (f_X6_listLargestGap th a1 M_3) (fun M_7 => some M_7) else (if w32 (M_3 (a1 + 1) 5) = 3 then cl1 (f_X6_planCombined th M_3) (fun M_9 => cl1 (f_X6_listCombined th a1 M_9) (fun M_11 => some M_11)) else cl1 (f_X6_listReturn th a1 M_3) (fun M_13 => some M_13))))))
noncomputable def s_X7_runAll_7 (th : Nat) (a1 : Nat) (x2 : Int) (M : Mem) : Option ((Int × Mem) ⊕ ((Mem) ⊕ (Mem))) :=
  (if w32 x2 < w32 (M (a1 + 16) 0) then cl1 (f_X7_run th (a1 + 1) x2 x2 M) (fun M_4 => bnd (x2 + 1) (fun x2_5 => some (.inl (x2_5, M_4)))) else some (.inr (.inl M)))
noncomputable def f_X7_runAll (th : Nat) (a1 : Nat) (M : Mem) : Option (Mem) :=
  cl1 (f_X7_measureWork th a1 M) (fun M_2 => lpb (wh (fun x => s_X7_runAll_7 th a1 x.1 x.2) (0, M_2)) (fun z_6 => some z_6) (fun q => some q))
noncomputable def s_X10_isWord_28 (w1 : Nat) (M : Mem) (x2 : Int) : Option ((Int) ⊕ ((Unit) ⊕ (Int))) :=
  (if w32 x2 < w32 (s_len w1) then gi ((M 38 5) + x2) 600 (gs w1 x2 ((if w32 (M 39 (ix ((M 38 5) + x2))) = w32 (s_chr w1 x2) then bnd (x2 + 1) (fun x2_3 => some (.inl x2_3)) else some (.inr (.inr 0))))) else some (.inr (.inl ())))
noncomputable def f_X10_isWord (w1 : Nat) (M : Mem) : Option (Int) :=
  (if w32 (M 38 4) = 1 then (if w32 ((M 38 6) - (M 38 5)) = w32 (s_len w1) then lpb (wh (fun x => s_X10_isWord_28 w1 M x) 0) (fun z_4 => some 1) (fun q => some q) else some 0) else some 0)
noncomputable def f_X11_stopItem  (x1 : Int) (x2 : Int) (x3 : Int) (M : Mem) : Option ((Nat ⊕ Int) × Mem) :=
  cx1 (f_X11_needBatch x1 M) (fun e_3 => some (.inl e_3, M)) (fun r_1 => cx1 (f_X11_needZone x2 M) (fun e_6 => some (.inl e_6, M)) (fun r_4 => gi x1 8 (cl1 (f_X6_survey 40 1 (M 18 (ix x1)) M) (fun M_9 => cl1 (f_X6_listStops 40 1 x2 M_9) (fun M_11 => cx1 (f_X11_needIndex x3 (M_11 40 12) M_11) (fun e_14 => some (.inl e_14, M_11)) (fun r_12 => gi x3 24 (some (.inr (M_11 48 (ix x3)), M_11))))))))
noncomputable def f_X11_startTime  (x1 : Int) (x2 : Int) (M : Mem) : Option ((Nat ⊕ Int) × Mem) :=
  cx1 (f_X11_needBatch x1 M) (fun e_3 => some (.inl e_3, M)) (fun r_1 => cx1 (f_X11_needZone x2 M) (fun e_6 => some (.inl e_6, M)) (fun r_4 => cl1 (f_X7_runAll 49 1 M) (fun M_8 => gi x1 8 (gi x2 3 (some (.inr (M_8 (59 + 1 + ix x1) (ix x2)), M_8))))))
noncomputable def f_X11_leaveTime  (x1 : Int) (x2 : Int) (M : Mem) : Option ((Nat ⊕ Int) × Mem) :=
  cx1 (f_X11_needBatch x1 M) (fun e_3 => some (.inl e_3, M)) (fun r_1 => cx1 (f_X11_needZone x2 M) (fun e_6 => some (.inl e_6, M)) (fun r_4 => cl1 (f_X7_runAll 49 1 M) (fun M_8 => gi x1 8 (gi x2 3 (some (.inr (M_8 (68 + 1 + ix x1) (ix x2)), M_8))))))
noncomputable def s_X11_blockedTime_20  (x1 : Int) (M : Mem) (x2 : Int) (x3 : Int) : Option ((Int × Int) ⊕ ((Int) ⊕ ((Nat ⊕ Int) × Mem))) :=
  (if w32 x3 < w32 (M 17 0) then gi x3 8 (gi x1 3 (gi x3 8 (gi x1 3 (gi x3 8 (gi x1 3 (bnd (x2 + (((M (68 + 1 + ix x3) (ix x1)) - (M (59 + 1 + ix x3) (ix x1))) - (M (50 + 1 + ix x3) (ix x1)))) (fun x2_12 => bnd (x3 + 1) (fun x3_13 => some (.inl (x2_12, x3_13)))))))))) else some (.inr (.inl x2)))
noncomputable def f_X11_blockedTime  (x1 : Int) (M : Mem) : Option ((Nat ⊕ Int) × Mem) :=
  cx1 (f_X11_needZone x1 M) (fun e_3 => some (.inl e_3, M)) (fun r_1 => cl1 (f_X7_runAll 49 1 M) (fun M_5 => lpb (wh (fun x => s_X11_blockedTime_20 x1 M_5 x.1 x.2) (0, 0)) (fun z_14 => some (.inr z_14, M_5)) (fun q => some q)))
noncomputable def f_X11_makespan  (M : Mem) : Option (Int × Mem) :=
  (if w32 (M 17 0) = 0 then some (0, M) else cl1 (f_X7_runAll 49 1 M) (fun M_2 => cl1 (f_X7_completion 49 2 ((M_2 17 0) - 1) M_2) (fun r_3 => some (r_3, M_2))))
noncomputable def f_X11_lateness  (x1 : Int) (M : Mem) : Option ((Nat ⊕ Int) × Mem) :=
  cx1 (f_X11_needOrder x1 M) (fun e_3 => some (.inl e_3, M)) (fun r_1 => cl1 (f_X0_batchWith 17 x1 M) (fun r_4 => (if w32 r_4 = (-1) then some (.inl 1, M) else cl1 (f_X7_runAll 49 1 M) (fun M_7 => cl1 (f_X7_completion 49 2 r_4 M_7) (fun r_8 => gi x1 16 (some (.inr (r_8 - (M_7 11 (ix x1))), M_7)))))))
noncomputable def s_X11_lateOrders_15  (M : Mem) (x1 : Int) (x2 : Int) : Option ((Int × Int) ⊕ ((Int) ⊕ (Int × Mem))) :=
  (if w32 x2 < w32 (M 17 0) then gi x2 8 (cl1 (f_X7_completion 49 2 x2 M) (fun r_4 => cl1 (f_X5_dueBefore 10 (M 18 (ix x2)) r_4 M) (fun r_6 => bnd (i_or x1 r_6) (fun x1_8 => bnd (x2 + 1) (fun x2_9 => some (.inl (x1_8, x2_9))))))) else some (.inr (.inl x1)))
noncomputable def f_X11_lateOrders  (M : Mem) : Option (Int × Mem) :=
  cl1 (f_X7_runAll 49 1 M) (fun M_2 => lpb (wh (fun x => s_X11_lateOrders_15 M_2 x.1 x.2) (0, 0)) (fun z_10 => some (z_10, M_2)) (fun q => some q))
noncomputable def s_X11_tardinessNow_15  (M : Mem) (x1 : Int) (x2 : Int) : Option ((Int × Int) ⊕ ((Int) ⊕ (Int × Mem))) :=
  (if w32 x2 < w32 (M 17 0) then cl1 (f_X7_completion 49 2 x2 M) (fun r_3 => cl1 (f_X1_tardinessOf 1 x2 r_3 M) (fun r_5 => bnd (x1 + r_5) (fun x1_7 => bnd (x2 + 1) (fun x2_8 => some (.inl (x1_7, x2_8)))))) else some (.inr (.inl x1)))
noncomputable def f_X11_tardinessNow  (M : Mem) : Option (Int × Mem) :=
  cl1 (f_X7_runAll 49 1 M) (fun M_2 => lpb (wh (fun x => s_X11_tardinessNow_15 M_2 x.1 x.2) (0, 0)) (fun z_9 => some (z_9, M_2)) (fun q => some q))
noncomputable def s_X4_makeAll_24 (a1 : Nat) (x2 : Int) (x3 : Int) (x4 : Int) (x5 : Int) (M : Mem) : Option ((Int × Mem) ⊕ ((Mem) ⊕ (Int × Mem))) :=
  (if w32 x5 < w32 (M (a1 + 9) 0) then cl1 (f_X4_tryMoves a1 x5 x2 x3 M) (fun M_5 => bnd (x5 + 1) (fun x5_6 => some (.inl (x5_6, M_5)))) else some (.inr (.inl M)))
noncomputable def s_X4_makeAll_3 (a1 : Nat) (x2 : Int) (x3 : Int) (x4 : Int) (M : Mem) : Option ((Int × Mem) ⊕ ((Mem) ⊕ (Int × Mem))) :=
  (if w32 x4 < 10000 then cl1 (f_X4_measureBatches a1 M) (fun M_2 => bnd (upd2 M_2 86 2 0) (fun M_3 => lpb (wh (fun x => s_X4_makeAll_24 a1 x2 x3 x4 x.1 x.2) (0, M_3)) (fun z_7 => (if w32 (z_7 86 2) = 0 then some (.inr (.inr (x4, z_7))) else cl1 (f_X0_move (a1 + 16) (z_7 86 3) (z_7 86 4) z_7) (fun M_9 => bnd (x4 + 1) (fun x4_10 => some (.inl (x4_10, M_9)))))) (fun q => some (.inr (.inr q))))) else some (.inr (.inl M)))
noncomputable def f_X4_makeAll (a1 : Nat) (x2 : Int) (x3 : Int) (M : Mem) : Option (Int × Mem) :=
  lpb (wh (fun x => s_X4_makeAll_3 a1 x2 x3 x.1 x.2) (0, M)) (fun z_11 => some (10000, z_11)) (fun q => some q)
noncomputable def f_X10_readHall (a1 : Nat) (M : Mem) : Option (Int × Mem) :=
  cl1 (f_X10_nextToken M) (fun M_2 => cl1 (f_X10_isWord 0 M_2) (fun r_3 => (if w32 r_3 = 0 then cl2 (f_X10_fail 1 M_2) (fun r_5 M_6 => gz r_5 (some (r_5, M_6))) else cl2 (f_X10_readNumber 1 6 M_2) (fun r_8 M_9 => (if w32 r_8 = 0 then some (0, M_9) else bnd (M_9 38 7) (fun x2_10 => cl2 (f_X10_readNumber 2 20 M_9) (fun r_11 M_12 => (if w32 r_11 = 0 then some (0, M_12) else bnd (M_12 38 7) (fun x3_13 => cl2 (f_X10_readNumber 1 9 M_12) (fun r_14 M_15 => (if w32 r_14 = 0 then some (0, M_15) else cl1 (f_X3_build a1 x2_10 x3_13 (M_15 38 7) M_15) (fun M_17 => cl2 (f_X10_readSemicolon M_17) (fun r_18 M_19 => gz r_18 (some (r_18, M_19)))))))))))))))
noncomputable def s_X10_readOrder_45 (a1 : Nat) (x2 : Int) (x3 : Int) (M : Mem) : Option ((Int × Mem) ⊕ ((Mem) ⊕ (Int × Mem))) :=
  (if 6 < w32 x3 then some (.inr (.inl M)) else cl1 (f_X10_nextToken M) (fun M_6 => (if w32 (M_6 38 4) = 3 then some (.inr (.inr (1, M_6))) else cl1 (f_X10_isWord 3 M_6) (fun r_7 => (if w32 r_7 = 0 then cl2 (f_X10_fail 1 M_6) (fun r_9 M_10 => gz r_9 (some (.inr (.inr (r_9, M_10))))) else (if w32 x3 = 6 then cl2 (f_X10_fail 3 M_6) (fun r_12 M_13 => gz r_12 (some (.inr (.inr (r_12, M_13))))) else cl2 (f_X10_readNumber 0 ((M_6 (a1 + 4) 0) - 1) M_6) (fun r_15 M_16 => (if w32 r_15 = 0 then some (.inr (.inr (0, M_16))) else bnd (M_16 38 7) (fun x4_17 => cl1 (f_X5_hasItem (a1 + 9) x2 x4_17 M_16) (fun r_18 => (if w32 r_18 = 0 then cl2 (f_X10_readNumber 1 99 M_16) (fun r_20 M_21 => (if w32 r_20 = 0 then some (.inr (.inr (0, M_21))) else cl2 (f_X5_appendLine (a1 + 9) x2 x4_17 (M_21 38 7) M_21) (fun r_22 M_23 => bnd (x3 + 1) (fun x3_24 => some (.inl (x3_24, M_23)))))) else cl2 (f_X10_fail 2 M_16) (fun r_25 M_26 => gz r_25 (some (.inr (.inr (r_25, M_26))))))))))))))))
noncomputable def f_X10_readOrder (a1 : Nat) (M : Mem) : Option (Int × Mem) :=
  (if w32 (M (a1 + 9) 0) < 16 then cl2 (f_X10_readNumber 0 9999 M) (fun r_1 M_2 => (if w32 r_1 = 0 then some (0, M_2) else cl2 (f_X5_append (a1 + 9) (M_2 38 7) M_2) (fun r_3 M_4 => lpb (wh (fun x => s_X10_readOrder_45 a1 r_3 x.1 x.2) (0, M_4)) (fun z_28 => some (0, z_28)) (fun q => some q)))) else cl2 (f_X10_fail 3 M) (fun r_29 M_30 => gz r_29 (some (r_29, M_30))))
noncomputable def j_X10_readPolicy_78 (a1 : Nat)  (M : Mem) : Option (Int × Mem) :=
  cl2 (f_X10_readSemicolon M) (fun r_15 M_16 => gz r_15 (some (r_15, M_16)))
noncomputable def f_X10_readPolicy (a1 : Nat) (M : Mem) : Option (Int × Mem) :=
  cl1 (f_X10_nextToken M) (fun M_2 => cl1 (f_X10_isWord 8 M_2) (fun r_3 => (if w32 r_3 = 0 then cl1 (f_X10_isWord 9 M_2) (fun r_5 => (if w32 r_5 = 0 then cl1 (f_X10_isWord 10 M_2) (fun r_7 => (if w32 r_7 = 0 then cl1 (f_X10_isWord 11 M_2) (fun r_9 => (if w32 r_9 = 0 then cl2 (f_X10_fail 1 M_2) (fun r_11 M_12 => gz r_11 (some (r_11, M_12))) else bnd (upd2 M_2 a1 5 3) (fun M_14 => j_X10_readPolicy_78 a1 M_14))) else bnd (upd2 M_2 a1 5 2) (fun M_18 => j_X10_readPolicy_78 a1 M_18))) else bnd (upd2 M_2 a1 5 1) (fun M_19 => j_X10_readPolicy_78 a1 M_19))) else bnd (upd2 M_2 a1 5 0) (fun M_20 => j_X10_readPolicy_78 a1 M_20))))
noncomputable def f_X11_improve  (x1 : Int) (x2 : Int) (M : Mem) : Option ((Nat ⊕ Int) × Mem) :=
  cx1 (f_X11_needBatchLimits x1 x2 M) (fun e_3 => some (.inl e_3, M)) (fun r_1 => cl2 (f_X4_makeAll 1 x1 x2 M) (fun r_4 M_5 => some (.inr r_4, M_5)))
noncomputable def f_X11_totalTardiness  (M : Mem) : Option (Int × Mem) :=
  cl2 (f_X11_tardinessNow M) (fun r_1 M_2 => some (r_1, M_2))
noncomputable def f_X11_meanTardinessNumerator  (M : Mem) : Option (Int × Mem) :=
  cl2 (f_X11_tardinessNow M) (fun r_1 M_2 => cl1 (f_X11_batchedOrders M_2) (fun r_3 => cl1 (f_X11_commonDivisor r_1 r_3 M_2) (fun r_5 => gn r_5 (some ((i_div r_1 r_5), M_2)))))
noncomputable def f_X11_meanTardinessDenominator  (M : Mem) : Option (Int × Mem) :=
  cl1 (f_X11_batchedOrders M) (fun r_1 => cl2 (f_X11_tardinessNow M) (fun r_3 M_4 => cl1 (f_X11_batchedOrders M_4) (fun r_5 => cl1 (f_X11_commonDivisor r_3 r_5 M_4) (fun r_7 => gn r_7 (some ((i_div r_1 r_7), M_4))))))
noncomputable def f_X10_readStatement (a1 : Nat) (M : Mem) : Option (Int × Mem) :=
  cl1 (f_X10_isWord 1 M) (fun r_1 => (if w32 r_1 = 0 then cl1 (f_X10_isWord 2 M) (fun r_3 => (if w32 r_3 = 0 then cl1 (f_X10_isWord 4 M) (fun r_5 => (if w32 r_5 = 0 then cl1 (f_X10_isWord 5 M) (fun r_7 => (if w32 r_7 = 0 then cl1 (f_X10_isWord 6 M) (fun r_9 => (if w32 r_9 = 0 then cl1 (f_X10_isWord 7 M) (fun r_11 => (if w32 r_11 = 0 then cl2 (f_X10_fail 1 M) (fun r_13 M_14 => gz r_13 (some (r_13, M_14))) else cl2 (f_X10_readPolicy (a1 + 1) M) (fun r_16 M_17 => gz r_16 (some (r_16, M_17))))) else cl2 (f_X10_readTimes (a1 + 1) M) (fun r_19 M_20 => gz r_19 (some (r_19, M_20))))) else cl2 (f_X10_readBuffer (a1 + 1) M) (fun r_22 M_23 => gz r_22 (some (r_22, M_23))))) else cl2 (f_X10_readZones (a1 + 1) M) (fun r_25 M_26 => gz r_25 (some (r_25, M_26))))) else cl2 (f_X10_readOrder a1 M) (fun r_28 M_29 => gz r_28 (some (r_28, M_29))))) else cl2 (f_X10_readItem a1 M) (fun r_31 M_32 => gz r_31 (some (r_31, M_32)))))
noncomputable def s_X10_readInto_34 (a1 : Nat) (x2 : Int) (M : Mem) : Option ((Int × Mem) ⊕ ((Mem) ⊕ (Int × Mem))) :=
  (if 600 < w32 x2 then some (.inr (.inl M)) else cl1 (f_X10_nextToken M) (fun M_9 => (if w32 (M_9 38 4) = 0 then some (.inr (.inr (1, M_9))) else cl2 (f_X10_readStatement a1 M_9) (fun r_10 M_11 => (if w32 r_10 = 0 then some (.inr (.inr (0, M_11))) else bnd (x2 + 1) (fun x2_12 => some (.inl (x2_12, M_11))))))))
noncomputable def f_X10_readInto (a1 : Nat) (M : Mem) : Option (Int × Mem) :=
  bnd (upd2 M 38 2 0) (fun M_1 => bnd (upd2 M_1 38 3 (-1)) (fun M_2 => bnd (upd2 M_2 38 6 0) (fun M_3 => cl1 (f_X1_reset a1 M_3) (fun M_5 => cl2 (f_X10_readHall (a1 + 1) M_5) (fun r_6 M_7 => (if w32 r_6 = 0 then some (0, M_7) else lpb (wh (fun x => s_X10_readInto_34 a1 x.1 x.2) (0, M_7)) (fun z_13 => some (0, z_13)) (fun q => some q)))))))
noncomputable def f_X11_load  (M : Mem) : Option (Int × Mem) :=
  cl2 (f_X10_readInto 19 M) (fun r_1 M_2 => bnd (upd2 M_2 38 1 0) (fun M_3 => (if w32 r_1 = 0 then some ((-1), M_3) else cl1 (f_X1_copyFrom 1 19 M_3) (fun M_5 => some ((M_5 10 0), M_5)))))
noncomputable def j_X9_search_133_42 (rec : Nat → Int → Int → Int → Mem → Option (Mem)) (a1 : Nat)  (x2 : Int) (x3 : Int) (x4 : Int) (x5 : Int) (M : Mem) : Option ((Int × Mem) ⊕ ((Mem) ⊕ (Mem))) :=
  bnd (x5 + 1) (fun x5_12 => some (.inl (x5_12, M)))
noncomputable def s_X9_search_42 (rec : Nat → Int → Int → Int → Mem → Option (Mem)) (a1 : Nat) (x2 : Int) (x3 : Int) (x4 : Int) (x5 : Int) (M : Mem) : Option ((Int × Mem) ⊕ ((Mem) ⊕ (Mem))) :=
  (if w32 x5 < w32 (M (a1 + 16) 0) then (if w32 (i_and (i_shr x3 x5) 1) = 0 then gi x2 8 (bnd (upd2 M 136 (ix x2) x5) (fun M_1 => cl1 (f_X7_run 98 (a1 + 1) x2 x5 M_1) (fun M_4 => cl1 (f_X7_completion 98 (a1 + 1) x2 M_4) (fun r_5 => cl1 (f_X1_tardinessOf a1 x5 r_5 M_4) (fun r_7 => bnd (x4 + r_7) (fun x6_9 => (if w32 x6_9 < w32 (M_4 97 5) then cl1 (rec a1 (x2 + 1) (i_or x3 (i_shl 1 x5)) x6_9 M_4) (fun M_11 => j_X9_search_133_42 rec a1 x2 x3 x4 x5 M_11) else j_X9_search_133_42 rec a1 x2 x3 x4 x5 M_4))))))) else j_X9_search_133_42 rec a1 x2 x3 x4 x5 M) else some (.inr (.inl M)))
noncomputable def j_X9_search_17 (rec : Nat → Int → Int → Int → Mem → Option (Mem)) (a1 : Nat)  (x4 : Int) (M : Mem) : Option (Mem) :=
  bnd (upd2 M 97 5 x4) (fun M_14 => bnd (cpy2 M_14 136 137 8) (fun M_15 => some M_15))
noncomputable def g_X9_search (rec : Nat → Int → Int → Int → Mem → Option (Mem)) (a1 : Nat) (x2 : Int) (x3 : Int) (x4 : Int) (M : Mem) : Option (Mem) :=
  (if w32 x2 < 6 then (if w32 x2 < w32 (M (a1 + 16) 0) then lpb (wh (fun x => s_X9_search_42 rec a1 x2 x3 x4 x.1 x.2) (0, M)) (fun z_13 => some z_13) (fun q => some q) else j_X9_search_17 rec a1 x4 M) else j_X9_search_17 rec a1 x4 M)
noncomputable def fd_X9_search : Nat → Nat → Int → Int → Int → Mem → Option (Mem)
  | 0 => fun _ _ _ _ _ => none
  | d + 1 => fun a1 x2 x3 x4 M => g_X9_search (fd_X9_search d) a1 x2 x3 x4 M
noncomputable def f_X9_search (a1 : Nat) (x2 : Int) (x3 : Int) (x4 : Int) (M : Mem) : Option (Mem) := fd_X9_search 8 a1 x2 x3 x4 M
noncomputable def j_X9_arrange_47 (a1 : Nat)  (M : Mem) : Option (Mem) :=
  cl1 (f_X9_applyTo (a1 + 16) M) (fun M_7 => some M_7)
noncomputable def f_X9_arrange (a1 : Nat) (x2 : Int) (M : Mem) : Option (Mem) :=
  cl1 (f_X7_measureWork 98 a1 M) (fun M_2 => (if w32 x2 = 2 then bnd (upd2 M_2 97 5 1000000000) (fun M_3 => cl1 (f_X9_search a1 0 0 0 M_3) (fun M_5 => j_X9_arrange_47 a1 M_5)) else cl1 (f_X9_fillKeys a1 x2 M_2) (fun M_9 => cl1 (f_X9_sortByKeys (M_9 (a1 + 16) 0) M_9) (fun M_11 => j_X9_arrange_47 a1 M_11))))
noncomputable def j_X11_sortBatches_36   (x1 : Int) (M : Mem) : Option ((Nat ⊕ Int) × Mem) :=
  cl1 (f_X9_arrange 1 x1 M) (fun M_5 => cl2 (f_X11_tardinessNow M_5) (fun r_6 M_7 => some (.inr r_6, M_7)))
noncomputable def f_X11_sortBatches  (x1 : Int) (M : Mem) : Option ((Nat ⊕ Int) × Mem) :=
  cx1 (f_X11_needArgument x1 0 2 M) (fun e_3 => some (.inl e_3, M)) (fun r_1 => (if w32 x1 = 2 then (if 6 < w32 (M 17 0) then some (.inl 1, M) else j_X11_sortBatches_36 x1 M) else j_X11_sortBatches_36 x1 M))
noncomputable def f_X12_thrown  (M : Mem) : Option (Int) :=
  some (M 139 0)
noncomputable def s_X12_begins_2  (x1 : Int) (M : Mem) : Option ((Int × Mem) ⊕ ((Mem) ⊕ (Mem))) :=
  (if w32 x1 < 469 then gi x1 469 (bnd (upd2 M 140 (ix x1) 0) (fun M_1 => bnd (x1 + 1) (fun x1_3 => some (.inl (x1_3, M_1))))) else some (.inr (.inl M)))
noncomputable def f_X12_begins  (M : Mem) : Option (Mem) :=
  lpb (wh (fun x => s_X12_begins_2 x.1 x.2) (0, M)) (fun z_4 => bnd (upd2 z_4 140 0 4) (fun M_5 => bnd (upd2 M_5 140 1 10) (fun M_6 => bnd (upd2 M_6 140 2 2) (fun M_7 => bnd (upd2 M_7 140 7 (-1)) (fun M_8 => bnd (upd2 M_8 140 8 (-1)) (fun M_9 => bnd (upd2 M_9 140 9 1) (fun M_10 => bnd (upd2 M_10 140 10 1) (fun M_11 => bnd (upd2 M_11 140 12 1) (fun M_12 => some M_12))))))))) (fun q => some q)
noncomputable def f_X12_in  (x0 : Int) (x1 : Int) (x2 : Int) (M : Mem) : Option (Int) :=
  (if w32 x0 < w32 x1 then some 0 else (if w32 x2 < w32 x0 then some 0 else some 1))
noncomputable def f_X12_has  (x0 : Int) (x1 : Int) (M : Mem) : Option (Int) :=
  (if w32 (i_and (i_shr x0 x1) 1) = 1 then some 1 else some 0)
noncomputable def s_X12_ones_4  (M : Mem) (x1 : Int) (x2 : Int) : Option ((Int × Int) ⊕ ((Int) ⊕ (Int))) :=
  (if w32 x2 = 0 then some (.inr (.inl x1)) else bnd (x1 + 1) (fun x1_1 => bnd (i_and x2 (x2 - 1)) (fun x2_2 => some (.inl (x1_1, x2_2)))))
noncomputable def f_X12_ones  (x0 : Int) (M : Mem) : Option (Int) :=
  lpb (wh (fun x => s_X12_ones_4 M x.1 x.2) (0, x0)) (fun z_3 => some z_3) (fun q => some q)
noncomputable def f_X12_greater  (x0 : Int) (x1 : Int) (M : Mem) : Option (Int) :=
  (if w32 x1 < w32 x0 then some x0 else some x1)
noncomputable def f_X12_zones  (M : Mem) : Option (Int) :=
  (if w32 (M 140 7) = (-1) then some 1 else (if w32 (M 140 8) = (-1) then some 2 else some 3))
noncomputable def f_X12_ofItem  (x1 : Int) (x2 : Int) (M : Mem) : Option (Int) :=
  gi ((13 + (4 * x1)) + x2) 469 (some (M 140 (ix ((13 + (4 * x1)) + x2))))
noncomputable def f_X12_orderAt  (x0 : Int) (M : Mem) : Option (Int) :=
  some (109 + (22 * x0))
noncomputable def f_X12_lineAt  (x0 : Int) (x1 : Int) (M : Mem) : Option (Int) :=
  some (((109 + (22 * x0)) + 4) + (3 * x1))
noncomputable def f_X12_laysHall  (x1 : Int) (x2 : Int) (x3 : Int) (M : Mem) : Option (Mem) :=
  bnd (upd2 M 140 0 x1) (fun M_1 => bnd (upd2 M_1 140 1 x2) (fun M_2 => bnd (upd2 M_2 140 2 x3) (fun M_3 => bnd (upd2 M_3 140 7 (-1)) (fun M_4 => bnd (upd2 M_4 140 8 (-1)) (fun M_5 => some M_5)))))
noncomputable def f_X12_aisleCount  (M : Mem) : Option (Int × Mem) :=
  bnd (upd2 M 139 0 0) (fun M_1 => some ((M_1 140 0), M_1))
noncomputable def f_X12_adds  (x1 : Int) (x2 : Int) (x3 : Int) (x4 : Int) (M : Mem) : Option (Int × Mem) :=
  bnd (13 + (4 * (M 140 3))) (fun x5_1 => gi x5_1 469 (bnd (upd2 M 140 (ix x5_1) x1) (fun M_2 => gi (x5_1 + 1) 469 (bnd (upd2 M_2 140 (ix (x5_1 + 1)) x2) (fun M_4 => gi (x5_1 + 2) 469 (bnd (upd2 M_4 140 (ix (x5_1 + 2)) x3) (fun M_6 => gi (x5_1 + 3) 469 (bnd (upd2 M_6 140 (ix (x5_1 + 3)) x4) (fun M_8 => bnd (upd2 M_8 140 3 ((M_8 140 3) + 1)) (fun M_10 => some (((M_10 140 3) - 1), M_10)))))))))))
noncomputable def f_X12_itemCount  (M : Mem) : Option (Int × Mem) :=
  bnd (upd2 M 139 0 0) (fun M_1 => some ((M_1 140 3), M_1))
noncomputable def f_X12_orderCount  (M : Mem) : Option (Int × Mem) :=
  bnd (upd2 M 139 0 0) (fun M_1 => some ((M_1 140 4), M_1))
noncomputable def s_X12_removes_4  (x2 : Int) (M : Mem) : Option ((Int × Mem) ⊕ ((Mem) ⊕ (Mem))) :=
  (if w32 x2 < w32 (M 140 5) then gi (461 + x2) 469 (gi ((461 + x2) - 1) 469 (bnd (upd2 M 140 (ix ((461 + x2) - 1)) (M 140 (ix (461 + x2)))) (fun M_3 => bnd (x2 + 1) (fun x2_5 => some (.inl (x2_5, M_3)))))) else some (.inr (.inl M)))
noncomputable def f_X12_removes  (x1 : Int) (M : Mem) : Option (Mem) :=
  bnd (x1 + 1) (fun x2_1 => lpb (wh (fun x => s_X12_removes_4 x.1 x.2) (x2_1, M)) (fun z_6 => bnd (upd2 z_6 140 5 ((z_6 140 5) - 1)) (fun M_7 => some M_7)) (fun q => some q))
noncomputable def f_X12_batchCount  (M : Mem) : Option (Int × Mem) :=
  bnd (upd2 M 139 0 0) (fun M_1 => some ((M_1 140 5), M_1))
noncomputable def f_X12_firstOf  (x1 : Int) (M : Mem) : Option (Int) :=
  (if w32 x1 = 0 then some 0 else (if w32 x1 = 1 then some (M 140 7) else some (M 140 8)))
noncomputable def s_X12_lowest_2  (x1 : Int) (M : Mem) (x2 : Int) : Option ((Int) ⊕ ((Int) ⊕ (Int))) :=
  (if w32 (M 140 1) < w32 x2 then some (.inr (.inl x2)) else gi ((21 * x1) + x2) 126 ((if w32 (M 144 (ix ((21 * x1) + x2))) = 0 then bnd (x2 + 1) (fun x2_2 => some (.inl x2_2)) else some (.inr (.inl x2)))))
noncomputable def f_X12_lowest  (x1 : Int) (M : Mem) : Option (Int) :=
  lpb (wh (fun x => s_X12_lowest_2 x1 M x) 1) (fun z_3 => some z_3) (fun q => some q)
noncomputable def s_X12_highest_7  (x1 : Int) (M : Mem) (x2 : Int) : Option ((Int) ⊕ ((Int) ⊕ (Int))) :=
  (if 0 < w32 x2 then gi ((21 * x1) + x2) 126 ((if w32 (M 144 (ix ((21 * x1) + x2))) = 0 then bnd (x2 + (-1)) (fun x2_3 => some (.inl x2_3)) else some (.inr (.inl x2)))) else some (.inr (.inl x2)))
noncomputable def f_X12_highest  (x1 : Int) (M : Mem) : Option (Int) :=
  bnd (M 140 1) (fun x2_1 => lpb (wh (fun x => s_X12_highest_7 x1 M x) x2_1) (fun z_4 => some z_4) (fun q => some q))
noncomputable def f_X12_through  (M : Mem) : Option (Int) :=
  some ((M 140 1) + 1)
noncomputable def s_X12_common_4  (M : Mem) (x2 : Int) (x3 : Int) : Option ((Int × Int) ⊕ ((Int) ⊕ (Int))) :=
  (if w32 x3 = 0 then some (.inr (.inl x2)) else gn x3 (bnd (i_rem x2 x3) (fun x4_2 => some (.inl (x3, x4_2)))))
noncomputable def f_X12_common  (x0 : Int) (x1 : Int) (M : Mem) : Option (Int) :=
  lpb (wh (fun x => s_X12_common_4 M x.1 x.2) (x0, x1)) (fun z_3 => some z_3) (fun q => some q)
noncomputable def f_X12_exchanges  (x1 : Int) (x2 : Int) (M : Mem) : Option (Mem) :=
  gi x1 8 (bnd (M 149 (ix x1)) (fun x3_2 => gi x2 8 (gi x1 8 (bnd (upd2 M 149 (ix x1) (M 149 (ix x2))) (fun M_4 => gi x2 8 (bnd (upd2 M_4 149 (ix x2) x3_2) (fun M_6 => some M_6)))))))
noncomputable def s_X12_keepsBest_2  (x1 : Int) (M : Mem) : Option ((Int × Mem) ⊕ ((Mem) ⊕ (Mem))) :=
  (if w32 x1 < w32 (M 140 5) then gi x1 8 (gi x1 8 (bnd (upd2 M 153 (ix x1) (M 149 (ix x1))) (fun M_2 => bnd (x1 + 1) (fun x1_4 => some (.inl (x1_4, M_2)))))) else some (.inr (.inl M)))
noncomputable def f_X12_keepsBest  (M : Mem) : Option (Mem) :=
  lpb (wh (fun x => s_X12_keepsBest_2 x.1 x.2) (0, M)) (fun z_5 => some z_5) (fun q => some q)
noncomputable def s_X12_appendText_33  (x1 : Int) (x2 : Int) (M : Mem) : Option ((Int × Mem) ⊕ ((Mem) ⊕ (Int × Mem))) :=
  (if w32 x2 < 0 then some (.inr (.inl M)) else gi (M 139 23) 600 (bnd (upd2 M 155 (ix (M 139 23)) (i_y (i_b (i_shr x1 x2)))) (fun M_2 => bnd (upd2 M_2 139 23 ((M_2 139 23) + 1)) (fun M_4 => bnd (x2 + (-8)) (fun x2_5 => some (.inl (x2_5, M_4)))))))
noncomputable def j_X12_appendText_18   (x1 : Int) (y1 : Int) (M : Mem) : Option (Int × Mem) :=
  bnd (upd2 M 139 0 y1) (fun M_1 => (if 0 < w32 (M_1 139 0) then some (0, M_1) else lpb (wh (fun x => s_X12_appendText_33 x1 x.1 x.2) (24, M_1)) (fun z_6 => some ((z_6 139 23), z_6)) (fun q => some q)))
noncomputable def f_X12_appendText  (x1 : Int) (M : Mem) : Option (Int × Mem) :=
  (if 600 < w32 ((M 139 23) + 4) then j_X12_appendText_18 x1 1 M else j_X12_appendText_18 x1 0 M)
noncomputable def f_X12_see  (M : Mem) : Option (Int) :=
  (if w32 (M 139 24) < w32 (M 139 23) then gi (M 139 24) 600 (some (i_and (M 155 (ix (M 139 24))) 255)) else some (-1))
noncomputable def f_X12_fails  (x1 : Int) (M : Mem) : Option (Mem) :=
  (if w32 (M 139 28) = 0 then bnd (upd2 M 139 28 x1) (fun M_1 => bnd (upd2 M_1 139 29 (M_1 139 25)) (fun M_2 => some M_2)) else some M)
noncomputable def f_X12_isWell  (M : Mem) : Option (Int) :=
  (if w32 (M 139 28) = 0 then some 1 else some 0)
noncomputable def j_X12_wordHere_81_23   (x1 : Int) (x2 : Int) (x3 : Int) (y0 : Int) (M : Mem) : Option ((Int × Int) ⊕ ((Int × Int) ⊕ (Int))) :=
  bnd (x3 + 1) (fun x3_2 => some (.inl (x3_2, y0)))
noncomputable def j_X12_wordHere_80_23   (x1 : Int) (x2 : Int) (x3 : Int) (M : Mem) : Option ((Int × Int) ⊕ ((Int × Int) ⊕ (Int))) :=
  j_X12_wordHere_81_23 x1 x2 x3 0 M
noncomputable def s_X12_wordHere_23  (x1 : Int) (x2 : Int) (M : Mem) (x3 : Int) (x4 : Int) : Option ((Int × Int) ⊕ ((Int × Int) ⊕ (Int))) :=
  gi (x1 + x3) 74 ((if w32 (M 156 (ix (x1 + x3))) = 32 then some (.inr (.inl (x3, x4))) else (if w32 x4 = 0 then j_X12_wordHere_80_23 x1 x2 x3 M else (if w32 ((M 139 25) + x3) < w32 (M 139 24) then gi ((M 139 25) + x3) 600 (gi (x1 + x3) 74 ((if w32 (M 155 (ix ((M 139 25) + x3))) = w32 (M 156 (ix (x1 + x3))) then j_X12_wordHere_81_23 x1 x2 x3 1 M else j_X12_wordHere_80_23 x1 x2 x3 M))) else j_X12_wordHere_80_23 x1 x2 x3 M))))
noncomputable def j_X12_wordHere_109_4   (x1 : Int) (x2 : Int) (x3 : Int) (M : Mem) : Option ((Int × Int) ⊕ ((Unit) ⊕ (Int))) :=
  bnd (x1 + (x3 + 1)) (fun x1_6 => bnd (x2 + 1) (fun x2_7 => some (.inl (x1_6, x2_7))))
noncomputable def s_X12_wordHere_4  (M : Mem) (x1 : Int) (x2 : Int) : Option ((Int × Int) ⊕ ((Unit) ⊕ (Int))) :=
  (if w32 (M 139 26) = 1 then (if w32 x2 < 12 then lpb (wh (fun x => s_X12_wordHere_23 x1 x2 M x.1 x.2) (0, 1)) (fun z_5 => (if w32 z_5.2 = 0 then j_X12_wordHere_109_4 x1 x2 z_5.1 M else (if w32 ((M 139 24) - (M 139 25)) = w32 z_5.1 then some (.inr (.inr x2)) else j_X12_wordHere_109_4 x1 x2 z_5.1 M))) (fun q => some (.inr (.inr q))) else some (.inr (.inl ()))) else some (.inr (.inl ())))
noncomputable def f_X12_wordHere  (M : Mem) : Option (Int) :=
  lpb (wh (fun x => s_X12_wordHere_4 M x.1 x.2) (0, 0)) (fun z_8 => some (-1)) (fun q => some q)
noncomputable def f_X12_errorCode  (M : Mem) : Option (Int × Mem) :=
  bnd (upd2 M 139 0 0) (fun M_1 => some ((M_1 139 28), M_1))
noncomputable def f_X12_errorPosition  (M : Mem) : Option (Int × Mem) :=
  bnd (upd2 M 139 0 0) (fun M_1 => some ((M_1 139 29), M_1))
noncomputable def s_X12_copies_3 (a0 n0 : Nat) (a2 n2 : Nat) (x1 : Int) (x3 : Int) (x4 : Int) (M : Mem) : Option ((Int × Mem) ⊕ ((Mem) ⊕ (Mem))) :=
  (if w32 x4 < 469 then gi (x1 + x4) n0 (gi (x3 + x4) n2 (bnd (upd2 M a2 (ix (x3 + x4)) (M a0 (ix (x1 + x4)))) (fun M_2 => bnd (x4 + 1) (fun x4_4 => some (.inl (x4_4, M_2)))))) else some (.inr (.inl M)))
noncomputable def f_X12_copies (a0 n0 : Nat) (a2 n2 : Nat) (x1 : Int) (x3 : Int) (M : Mem) : Option (Mem) :=
  lpb (wh (fun x => s_X12_copies_3 a0 n0 a2 n2 x1 x3 x.1 x.2) (0, M)) (fun z_5 => some z_5) (fun q => some q)
noncomputable def f_X12_isAisle  (x1 : Int) (M : Mem) : Option (Int) :=
  cl1 (f_X12_in x1 0 ((M 140 0) - 1) M) (fun r_1 => gz r_1 (some r_1))
noncomputable def f_X12_isItem  (x1 : Int) (M : Mem) : Option (Int) :=
  cl1 (f_X12_in x1 0 ((M 140 3) - 1) M) (fun r_1 => gz r_1 (some r_1))
noncomputable def f_X12_isOrder  (x1 : Int) (M : Mem) : Option (Int) :=
  cl1 (f_X12_in x1 0 ((M 140 4) - 1) M) (fun r_1 => gz r_1 (some r_1))
noncomputable def f_X12_isBatch  (x1 : Int) (M : Mem) : Option (Int) :=
  cl1 (f_X12_in x1 0 ((M 140 5) - 1) M) (fun r_1 => gz r_1 (some r_1))
noncomputable def f_X12_isZone  (x1 : Int) (M : Mem) : Option (Int) :=
  cl1 (f_X12_zones M) (fun r_1 => cl1 (f_X12_in x1 0 (r_1 - 1) M) (fun r_3 => gz r_3 (some r_3)))
noncomputable def j_X12_setLayout_49   (x1 : Int) (x2 : Int) (x3 : Int) (y1 : Int) (M : Mem) : Option (Int × Mem) :=
  bnd (upd2 M 139 0 y1) (fun M_3 => (if 0 < w32 (M_3 139 0) then some (0, M_3) else cl1 (f_X12_laysHall x1 x2 x3 M_3) (fun M_5 => some ((x1 * x2), M_5))))
noncomputable def j_X12_setLayout_31   (x1 : Int) (x2 : Int) (x3 : Int) (M : Mem) : Option (Int × Mem) :=
  j_X12_setLayout_49 x1 x2 x3 1 M
noncomputable def f_X12_setLayout  (x1 : Int) (x2 : Int) (x3 : Int) (M : Mem) : Option (Int × Mem) :=
  cl1 (f_X12_in x1 1 6 M) (fun r_1 => (if w32 r_1 = 0 then j_X12_setLayout_31 x1 x2 x3 M else cl1 (f_X12_in x2 2 20 M) (fun r_6 => (if w32 r_6 = 0 then j_X12_setLayout_31 x1 x2 x3 M else cl1 (f_X12_in x3 1 9 M) (fun r_8 => (if w32 r_8 = 0 then j_X12_setLayout_31 x1 x2 x3 M else (if 0 < w32 (M 140 3) then j_X12_setLayout_49 x1 x2 x3 2 M else j_X12_setLayout_49 x1 x2 x3 0 M)))))))
noncomputable def s_X12_opensOrder_9  (x1 : Int) (x2 : Int) (x3 : Int) (M : Mem) : Option ((Int × Mem) ⊕ ((Mem) ⊕ (Int × Mem))) :=
  (if w32 x3 < 22 then cl1 (f_X12_orderAt x2 M) (fun r_2 => gi (r_2 + x3) 469 (bnd (upd2 M 140 (ix (r_2 + x3)) 0) (fun M_4 => bnd (x3 + 1) (fun x3_6 => some (.inl (x3_6, M_4)))))) else some (.inr (.inl M)))
noncomputable def f_X12_opensOrder  (x1 : Int) (M : Mem) : Option (Int × Mem) :=
  bnd (M 140 4) (fun x2_1 => lpb (wh (fun x => s_X12_opensOrder_9 x1 x2_1 x.1 x.2) (0, M)) (fun z_7 => cl1 (f_X12_orderAt x2_1 z_7) (fun r_8 => gi (r_8 + 0) 469 (bnd (upd2 z_7 140 (ix (r_8 + 0)) x1) (fun M_10 => bnd (upd2 M_10 140 4 ((M_10 140 4) + 1)) (fun M_12 => some (x2_1, M_12)))))) (fun q => some q))
noncomputable def f_X12_ofOrder  (x1 : Int) (x2 : Int) (M : Mem) : Option (Int) :=
  cl1 (f_X12_orderAt x1 M) (fun r_1 => gi (r_1 + x2) 469 (some (M 140 (ix (r_1 + x2)))))
noncomputable def s_X12_batchOf_2  (x1 : Int) (M : Mem) (x2 : Int) : Option ((Int) ⊕ ((Unit) ⊕ (Int))) :=
  (if w32 x2 < w32 (M 140 5) then gi (461 + x2) 469 (cl1 (f_X12_has (M 140 (ix (461 + x2))) x1 M) (fun r_2 => (if w32 r_2 = 0 then bnd (x2 + 1) (fun x2_4 => some (.inl x2_4)) else some (.inr (.inr x2))))) else some (.inr (.inl ())))
noncomputable def f_X12_batchOf  (x1 : Int) (M : Mem) : Option (Int) :=
  lpb (wh (fun x => s_X12_batchOf_2 x1 M x) 0) (fun z_5 => some (-1)) (fun q => some q)
noncomputable def j_X12_setsStates_28_2   (x1 : Int) (x2 : Int) (x3 : Int) (M : Mem) : Option ((Int × Mem) ⊕ ((Mem) ⊕ (Mem))) :=
  bnd (x3 + 1) (fun x3_3 => some (.inl (x3_3, M)))
noncomputable def s_X12_setsStates_2  (x1 : Int) (x2 : Int) (x3 : Int) (M : Mem) : Option ((Int × Mem) ⊕ ((Mem) ⊕ (Mem))) :=
  (if w32 x3 < 16 then cl1 (f_X12_has x1 x3 M) (fun r_1 => (if w32 r_1 = 0 then j_X12_setsStates_28_2 x1 x2 x3 M else cl1 (f_X12_orderAt x3 M) (fun r_4 => gi (r_4 + 1) 469 (bnd (upd2 M 140 (ix (r_4 + 1)) x2) (fun M_6 => j_X12_setsStates_28_2 x1 x2 x3 M_6))))) else some (.inr (.inl M)))
noncomputable def f_X12_setsStates  (x1 : Int) (x2 : Int) (M : Mem) : Option (Mem) :=
  lpb (wh (fun x => s_X12_setsStates_2 x1 x2 x.1 x.2) (0, M)) (fun z_8 => some z_8) (fun q => some q)
noncomputable def f_X12_behind  (x1 : Int) (M : Mem) : Option (Int) :=
  cl1 (f_X12_zones M) (fun r_1 => (if w32 x1 = w32 (r_1 - 1) then some (M 140 0) else cl1 (f_X12_firstOf (x1 + 1) M) (fun r_3 => some r_3)))
noncomputable def j_X12_seeksGap_71_14   (x1 : Int) (x2 : Int) (x3 : Int) (M : Mem) : Option ((Int × Int × Mem) ⊕ ((Mem) ⊕ (Mem))) :=
  bnd (x3 + 1) (fun x3_8 => some (.inl (x2, x3_8, M)))
noncomputable def j_X12_seeksGap_69_14   (x1 : Int) (x3 : Int) (M : Mem) : Option ((Int × Int × Mem) ⊕ ((Mem) ⊕ (Mem))) :=
  j_X12_seeksGap_71_14 x1 x3 x3 M
noncomputable def j_X12_seeksGap_47_14   (x1 : Int) (x2 : Int) (x3 : Int) (M : Mem) : Option ((Int × Int × Mem) ⊕ ((Mem) ⊕ (Mem))) :=
  (if w32 (M 139 10) < w32 (x3 - x2) then bnd (upd2 M 139 9 x2) (fun M_9 => bnd (upd2 M_9 139 10 (x3 - x2)) (fun M_10 => j_X12_seeksGap_69_14 x1 x3 M_10)) else j_X12_seeksGap_69_14 x1 x3 M)
noncomputable def s_X12_seeksGap_14  (x1 : Int) (x2 : Int) (x3 : Int) (M : Mem) : Option ((Int × Int × Mem) ⊕ ((Mem) ⊕ (Mem))) :=
  cl1 (f_X12_through M) (fun r_3 => (if w32 r_3 < w32 x3 then some (.inr (.inl M)) else cl1 (f_X12_through M) (fun r_5 => (if w32 x3 < w32 r_5 then gi ((21 * x1) + x3) 126 ((if w32 (M 144 (ix ((21 * x1) + x3))) = 0 then j_X12_seeksGap_71_14 x1 x2 x3 M else j_X12_seeksGap_47_14 x1 x2 x3 M)) else j_X12_seeksGap_47_14 x1 x2 x3 M))))
noncomputable def f_X12_seeksGap  (x1 : Int) (M : Mem) : Option (Mem) :=
  bnd (upd2 M 139 9 0) (fun M_1 => bnd (upd2 M_1 139 10 0) (fun M_2 => lpb (wh (fun x => s_X12_seeksGap_14 x1 x.1 x.2.1 x.2.2) (0, 1, M_2)) (fun z_11 => some z_11) (fun q => some q)))
noncomputable def j_X12_combinedBy_93_7   (x1 : Int) (x3 : Int) (x4 : Int) (y0 : Int) (M : Mem) : Option ((Int × Int × Int) ⊕ ((Int × Int) ⊕ (Int))) :=
  bnd (x4 + 1) (fun x4_7 => some (.inl (y0, x3, x4_7)))
noncomputable def j_X12_combinedBy_80_7   (x1 : Int) (x2 : Int) (x4 : Int) (x5 : Int) (y0 : Int) (y1 : Int) (M : Mem) : Option ((Int × Int × Int) ⊕ ((Int × Int) ⊕ (Int))) :=
  bnd (y0 + y1) (fun x3_6 => (if w32 x2 = w32 x5 then j_X12_combinedBy_93_7 x1 x3_6 x4 0 M else j_X12_combinedBy_93_7 x1 x3_6 x4 1 M))
noncomputable def j_X12_combinedBy_79_7   (x1 : Int) (x2 : Int) (x4 : Int) (x5 : Int) (y0 : Int) (y1 : Int) (y2 : Int) (M : Mem) : Option ((Int × Int × Int) ⊕ ((Int × Int) ⊕ (Int))) :=
  j_X12_combinedBy_80_7 x1 x2 x4 x5 y0 (y1 * y2) M
noncomputable def s_X12_combinedBy_7  (x1 : Int) (M : Mem) (x2 : Int) (x3 : Int) (x4 : Int) : Option ((Int × Int × Int) ⊕ ((Int × Int) ⊕ (Int))) :=
  (if w32 x4 < w32 (M 139 8) then cl1 (f_X12_has x1 (((M 139 8) - 1) - x4) M) (fun r_1 => (if w32 r_1 = 0 then (if w32 x2 = 0 then gi x4 6 (cl1 (f_X12_highest (M 146 (ix x4)) M) (fun r_4 => j_X12_combinedBy_79_7 x1 x2 x4 r_1 x3 2 r_4 M)) else cl1 (f_X12_through M) (fun r_8 => gi x4 6 (cl1 (f_X12_lowest (M 146 (ix x4)) M) (fun r_11 => j_X12_combinedBy_79_7 x1 x2 x4 r_1 x3 2 (r_8 - r_11) M)))) else cl1 (f_X12_through M) (fun r_13 => j_X12_combinedBy_80_7 x1 x2 x4 r_1 x3 r_13 M))) else some (.inr (.inl (x2, x3))))
noncomputable def f_X12_combinedBy  (x1 : Int) (M : Mem) : Option (Int) :=
  lpb (wh (fun x => s_X12_combinedBy_7 x1 M x.1 x.2.1 x.2.2) (0, 0, 0)) (fun z_15 => (if w32 z_15.1 = 0 then some z_15.2 else some (-1))) (fun q => some q)
noncomputable def j_X12_shapeOf_52_4   (x2 : Int) (y0 : Int) (y1 : Int) (M : Mem) : Option ((Int × Int) ⊕ ((Int) ⊕ (Int))) :=
  bnd (y0 + y1) (fun x1_4 => bnd (x2 + 1) (fun x2_5 => some (.inl (x1_4, x2_5))))
noncomputable def j_X12_shapeOf_48_4   (x2 : Int) (y0 : Int) (M : Mem) : Option ((Int × Int) ⊕ ((Int) ⊕ (Int))) :=
  cl1 (f_X12_through M) (fun r_6 => j_X12_shapeOf_52_4 x2 y0 r_6 M)
noncomputable def s_X12_shapeOf_4  (M : Mem) (x1 : Int) (x2 : Int) : Option ((Int × Int) ⊕ ((Int) ⊕ (Int))) :=
  (if w32 x2 < w32 (M 139 8) then (if w32 x2 = w32 ((M 139 8) - 1) then (if w32 (i_rem (M 139 8) 2) = 1 then gi x2 6 (cl1 (f_X12_highest (M 146 (ix x2)) M) (fun r_2 => j_X12_shapeOf_52_4 x2 x1 (2 * r_2) M)) else j_X12_shapeOf_48_4 x2 x1 M) else j_X12_shapeOf_48_4 x2 x1 M) else some (.inr (.inl x1)))
noncomputable def f_X12_shapeOf  (M : Mem) : Option (Int) :=
  lpb (wh (fun x => s_X12_shapeOf_4 M x.1 x.2) (0, 0)) (fun z_8 => some z_8) (fun q => some q)
noncomputable def s_X12_returnOf_4  (M : Mem) (x1 : Int) (x2 : Int) : Option ((Int × Int) ⊕ ((Int) ⊕ (Int))) :=
  (if w32 x2 < w32 (M 139 8) then gi x2 6 (cl1 (f_X12_highest (M 146 (ix x2)) M) (fun r_2 => bnd (x1 + (2 * r_2)) (fun x1_4 => bnd (x2 + 1) (fun x2_5 => some (.inl (x1_4, x2_5)))))) else some (.inr (.inl x1)))
noncomputable def f_X12_returnOf  (M : Mem) : Option (Int) :=
  lpb (wh (fun x => s_X12_returnOf_4 M x.1 x.2) (0, 0)) (fun z_6 => some z_6) (fun q => some q)
noncomputable def j_X12_setPolicy_15   (x1 : Int) (y1 : Int) (M : Mem) : Option (Int × Mem) :=
  bnd (upd2 M 139 0 y1) (fun M_3 => (if 0 < w32 (M_3 139 0) then some (0, M_3) else bnd (M_3 140 6) (fun x2_4 => bnd (upd2 M_3 140 6 x1) (fun M_5 => some (x2_4, M_5)))))
noncomputable def f_X12_setPolicy  (x1 : Int) (M : Mem) : Option (Int × Mem) :=
  cl1 (f_X12_in x1 0 3 M) (fun r_1 => (if w32 r_1 = 0 then j_X12_setPolicy_15 x1 1 M else j_X12_setPolicy_15 x1 0 M))
noncomputable def j_X12_setZones_73   (x1 : Int) (x2 : Int) (y1 : Int) (M : Mem) : Option (Int × Mem) :=
  bnd (upd2 M 139 0 y1) (fun M_1 => (if 0 < w32 (M_1 139 0) then some (0, M_1) else bnd (upd2 M_1 140 7 x1) (fun M_2 => bnd (upd2 M_2 140 8 x2) (fun M_3 => cl1 (f_X12_zones M_3) (fun r_4 => some (r_4, M_3))))))
noncomputable def j_X12_setZones_62   (x1 : Int) (x2 : Int) (y0 : Int) (M : Mem) : Option (Int × Mem) :=
  (if w32 y0 = 0 then j_X12_setZones_73 x1 x2 1 M else j_X12_setZones_73 x1 x2 0 M)
noncomputable def j_X12_setZones_61   (x1 : Int) (x2 : Int) (M : Mem) : Option (Int × Mem) :=
  j_X12_setZones_62 x1 x2 0 M
noncomputable def j_X12_setZones_57   (x1 : Int) (x2 : Int) (M : Mem) : Option (Int × Mem) :=
  j_X12_setZones_62 x1 x2 1 M
noncomputable def f_X12_setZones  (x1 : Int) (x2 : Int) (M : Mem) : Option (Int × Mem) :=
  (if w32 x1 = (-1) then (if w32 x2 = (-1) then j_X12_setZones_62 x1 x2 1 M else j_X12_setZones_62 x1 x2 0 M) else cl1 (f_X12_in x1 1 ((M 140 0) - 1) M) (fun r_6 => (if w32 r_6 = 0 then j_X12_setZones_61 x1 x2 M else (if w32 x2 = (-1) then j_X12_setZones_57 x1 x2 M else cl1 (f_X12_in x2 (x1 + 1) ((M 140 0) - 1) M) (fun r_8 => (if w32 r_8 = 0 then j_X12_setZones_61 x1 x2 M else j_X12_setZones_57 x1 x2 M))))))
noncomputable def j_X12_setBuffer_28   (x1 : Int) (x2 : Int) (y1 : Int) (M : Mem) : Option (Int × Mem) :=
  bnd (upd2 M 139 0 y1) (fun M_3 => (if 0 < w32 (M_3 139 0) then some (0, M_3) else gi (9 + x1) 469 (bnd (M_3 140 (ix (9 + x1))) (fun x3_5 => gi (9 + x1) 469 (bnd (upd2 M_3 140 (ix (9 + x1)) x2) (fun M_6 => some (x3_5, M_6)))))))
noncomputable def f_X12_setBuffer  (x1 : Int) (x2 : Int) (M : Mem) : Option (Int × Mem) :=
  cl1 (f_X12_in x1 0 1 M) (fun r_1 => (if w32 r_1 = 0 then j_X12_setBuffer_28 x1 x2 1 M else cl1 (f_X12_in x2 0 4 M) (fun r_8 => (if w32 r_8 = 0 then j_X12_setBuffer_28 x1 x2 2 M else j_X12_setBuffer_28 x1 x2 0 M))))
noncomputable def j_X12_setTimes_26   (x1 : Int) (x2 : Int) (y1 : Int) (M : Mem) : Option (Int × Mem) :=
  bnd (upd2 M 139 0 y1) (fun M_3 => (if 0 < w32 (M_3 139 0) then some (0, M_3) else bnd ((100 * (M_3 140 11)) + (M_3 140 12)) (fun x3_4 => bnd (upd2 M_3 140 11 x1) (fun M_5 => bnd (upd2 M_5 140 12 x2) (fun M_6 => some (x3_4, M_6))))))
noncomputable def j_X12_setTimes_25   (x1 : Int) (x2 : Int) (M : Mem) : Option (Int × Mem) :=
  j_X12_setTimes_26 x1 x2 1 M
noncomputable def f_X12_setTimes  (x1 : Int) (x2 : Int) (M : Mem) : Option (Int × Mem) :=
  cl1 (f_X12_in x1 0 99 M) (fun r_1 => (if w32 r_1 = 0 then j_X12_setTimes_25 x1 x2 M else cl1 (f_X12_in x2 0 99 M) (fun r_7 => (if w32 r_7 = 0 then j_X12_setTimes_25 x1 x2 M else j_X12_setTimes_26 x1 x2 0 M))))
noncomputable def j_X12_stopsAt_61_2   (x1 : Int) (x2 : Int) (x3 : Int) (M : Mem) : Option ((Int × Mem) ⊕ ((Mem) ⊕ (Mem))) :=
  bnd (x3 + 1) (fun x3_2 => some (.inl (x3_2, M)))
noncomputable def s_X12_stopsAt_2  (x1 : Int) (x2 : Int) (x3 : Int) (M : Mem) : Option ((Int × Mem) ⊕ ((Mem) ⊕ (Mem))) :=
  (if w32 x3 < w32 (M 140 3) then gi x3 24 ((if w32 (M 145 (ix x3)) = 0 then j_X12_stopsAt_61_2 x1 x2 x3 M else cl1 (f_X12_ofItem x3 0 M) (fun r_3 => (if w32 r_3 = w32 x1 then cl1 (f_X12_ofItem x3 1 M) (fun r_5 => (if w32 r_5 = w32 x2 then gi (M 139 14) 24 (bnd (upd2 M 147 (ix (M 139 14)) x3) (fun M_7 => bnd (upd2 M_7 139 14 ((M_7 139 14) + 1)) (fun M_9 => j_X12_stopsAt_61_2 x1 x2 x3 M_9))) else j_X12_stopsAt_61_2 x1 x2 x3 M)) else j_X12_stopsAt_61_2 x1 x2 x3 M)))) else some (.inr (.inl M)))
noncomputable def f_X12_stopsAt  (x1 : Int) (x2 : Int) (M : Mem) : Option (Mem) :=
  lpb (wh (fun x => s_X12_stopsAt_2 x1 x2 x.1 x.2) (0, M)) (fun z_10 => some z_10) (fun q => some q)
noncomputable def f_X12_whenRoom  (x1 : Int) (x2 : Int) (M : Mem) : Option (Int) :=
  gi (9 + x2) 469 (bnd (M 140 (ix (9 + x2))) (fun x3_2 => cl1 (f_X12_greater 1 x3_2 M) (fun r_3 => (if w32 x1 < w32 r_3 then some 0 else (if w32 x3_2 = 0 then gi (((3 * (x1 - 1)) + x2) + 1) 24 (some (M 151 (ix (((3 * (x1 - 1)) + x2) + 1)))) else gi (((3 * (x1 - x3_2)) + x2) + 1) 24 (some (M 150 (ix (((3 * (x1 - x3_2)) + x2) + 1)))))))))
noncomputable def f_X12_completes  (x1 : Int) (M : Mem) : Option (Int) :=
  cl1 (f_X12_zones M) (fun r_1 => gi (((3 * x1) + r_1) - 1) 24 (some (M 151 (ix (((3 * x1) + r_1) - 1)))))
noncomputable def s_X12_batchedMany_4  (M : Mem) (x1 : Int) (x2 : Int) : Option ((Int × Int) ⊕ ((Int) ⊕ (Int))) :=
  (if w32 x2 < w32 (M 140 5) then gi (461 + x2) 469 (cl1 (f_X12_ones (M 140 (ix (461 + x2))) M) (fun r_2 => bnd (x1 + r_2) (fun x1_4 => bnd (x2 + 1) (fun x2_5 => some (.inl (x1_4, x2_5)))))) else some (.inr (.inl x1)))
noncomputable def f_X12_batchedMany  (M : Mem) : Option (Int) :=
  lpb (wh (fun x => s_X12_batchedMany_4 M x.1 x.2) (0, 0)) (fun z_6 => some z_6) (fun q => some q)
noncomputable def s_X12_goesOn_11  (x1 : Int) (M : Mem) (x2 : Int) : Option ((Int) ⊕ ((Int) ⊕ (Int × Mem))) :=
  (if w32 x2 < 0 then some (.inr (.inl x2)) else gi x2 8 (gi (x2 + 1) 8 ((if w32 (M 149 (ix (x2 + 1))) < w32 (M 149 (ix x2)) then bnd (x2 + (-1)) (fun x2_5 => some (.inl x2_5)) else some (.inr (.inl x2))))))
noncomputable def s_X12_goesOn_48  (x1 : Int) (x2 : Int) (M : Mem) (x3 : Int) : Option ((Int) ⊕ ((Int) ⊕ (Int × Mem))) :=
  gi x3 8 (gi x2 8 ((if w32 (M 149 (ix x3)) < w32 (M 149 (ix x2)) then bnd (x3 + (-1)) (fun x3_10 => some (.inl x3_10)) else some (.inr (.inl x3)))))
noncomputable def s_X12_goesOn_85  (x4 : Int) (x5 : Int) (M : Mem) : Option ((Int × Int × Mem) ⊕ ((Mem) ⊕ (Int × Mem))) :=
  (if w32 x4 < w32 x5 then cl1 (f_X12_exchanges x4 x5 M) (fun M_17 => bnd (x4 + 1) (fun x4_18 => bnd (x5 + (-1)) (fun x5_19 => some (.inl (x4_18, x5_19, M_17))))) else some (.inr (.inl M)))
noncomputable def j_X12_goesOn_38   (x1 : Int) (x2 : Int) (M : Mem) : Option (Int × Mem) :=
  (if w32 x2 < 0 then some (0, M) else bnd (x1 - 1) (fun x3_7 => lpb (wh (fun x => s_X12_goesOn_48 x1 x2 M x) x3_7) (fun z_11 => cl1 (f_X12_exchanges x2 z_11 M) (fun M_13 => bnd (x2 + 1) (fun x4_14 => bnd (x1 - 1) (fun x5_15 => lpb (wh (fun x => s_X12_goesOn_85 x.1 x.2.1 x.2.2) (x4_14, x5_15, M_13)) (fun z_20 => some (1, z_20)) (fun q => some q))))) (fun q => some q)))
noncomputable def f_X12_goesOn  (M : Mem) : Option (Int × Mem) :=
  bnd (M 140 5) (fun x1_1 => bnd (x1_1 - 2) (fun x2_2 => lpb (wh (fun x => s_X12_goesOn_11 x1_1 M x) x2_2) (fun z_6 => j_X12_goesOn_38 x1_1 z_6 M) (fun q => some q)))
noncomputable def j_X12_picks_57   (x3 : Int) (x4 : Int) (y0 : Int) (M : Mem) : Option (Int × Mem) :=
  gi x4 469 (gi x4 469 (bnd (upd2 M 140 (ix x4) ((M 140 (ix x4)) - y0)) (fun M_9 => gi (x3 + 2) 469 (bnd (upd2 M_9 140 (ix (x3 + 2)) y0) (fun M_11 => some (y0, M_11))))))
noncomputable def f_X12_picks  (x1 : Int) (x2 : Int) (M : Mem) : Option (Int × Mem) :=
  cl1 (f_X12_lineAt x1 x2 M) (fun r_1 => gi r_1 469 (bnd ((13 + (4 * (M 140 (ix r_1)))) + 3) (fun x4_4 => gi x4_4 469 (gi (r_1 + 1) 469 ((if w32 (M 140 (ix x4_4)) < w32 (M 140 (ix (r_1 + 1))) then gi x4_4 469 (j_X12_picks_57 r_1 x4_4 (M 140 (ix x4_4)) M) else gi (r_1 + 1) 469 (j_X12_picks_57 r_1 x4_4 (M 140 (ix (r_1 + 1))) M)))))))
noncomputable def j_X12_truncateText_18   (x1 : Int) (y1 : Int) (M : Mem) : Option (Int × Mem) :=
  bnd (upd2 M 139 0 y1) (fun M_3 => (if 0 < w32 (M_3 139 0) then some (0, M_3) else bnd (upd2 M_3 139 23 x1) (fun M_4 => some ((M_4 139 23), M_4))))
noncomputable def f_X12_truncateText  (x1 : Int) (M : Mem) : Option (Int × Mem) :=
  cl1 (f_X12_in x1 0 (M 139 23) M) (fun r_1 => (if w32 r_1 = 0 then j_X12_truncateText_18 x1 1 M else j_X12_truncateText_18 x1 0 M))
noncomputable def f_X12_isSmall  (M : Mem) : Option (Int) :=
  cl1 (f_X12_see M) (fun r_1 => cl1 (f_X12_in r_1 97 122 M) (fun r_3 => gz r_3 (some r_3)))
noncomputable def f_X12_isDigit  (M : Mem) : Option (Int) :=
  cl1 (f_X12_see M) (fun r_1 => cl1 (f_X12_in r_1 48 57 M) (fun r_3 => gz r_3 (some r_3)))
noncomputable def j_X12_save_15   (x1 : Int) (y1 : Int) (M : Mem) : Option (Mem) :=
  bnd (upd2 M 139 0 y1) (fun M_3 => (if 0 < w32 (M_3 139 0) then some M_3 else cl1 (f_X12_copies 140 469 142 938 0 (469 * x1) M_3) (fun M_5 => gi x1 2 (bnd (upd2 M_5 143 (ix x1) (i_z 1)) (fun M_6 => some M_6)))))
noncomputable def f_X12_save  (x1 : Int) (M : Mem) : Option (Mem) :=
  cl1 (f_X12_in x1 0 1 M) (fun r_1 => (if w32 r_1 = 0 then j_X12_save_15 x1 1 M else j_X12_save_15 x1 0 M))
noncomputable def j_X12_restore_28   (x1 : Int) (y1 : Int) (M : Mem) : Option (Mem) :=
  bnd (upd2 M 139 0 y1) (fun M_3 => (if 0 < w32 (M_3 139 0) then some M_3 else cl1 (f_X12_copies 142 938 140 469 (469 * x1) 0 M_3) (fun M_5 => some M_5)))
noncomputable def f_X12_restore  (x1 : Int) (M : Mem) : Option (Mem) :=
  cl1 (f_X12_in x1 0 1 M) (fun r_1 => (if w32 r_1 = 0 then j_X12_restore_28 x1 1 M else gi x1 2 ((if w32 (M 143 (ix x1)) = 0 then j_X12_restore_28 x1 2 M else j_X12_restore_28 x1 0 M))))
noncomputable def j_X12_addItem_81   (x1 : Int) (x2 : Int) (x3 : Int) (x4 : Int) (y1 : Int) (M : Mem) : Option (Int × Mem) :=
  bnd (upd2 M 139 0 y1) (fun M_3 => (if 0 < w32 (M_3 139 0) then some (0, M_3) else cl2 (f_X12_adds x1 x2 x3 x4 M_3) (fun r_4 M_5 => some (r_4, M_5))))
noncomputable def j_X12_addItem_61   (x1 : Int) (x2 : Int) (x3 : Int) (x4 : Int) (M : Mem) : Option (Int × Mem) :=
  j_X12_addItem_81 x1 x2 x3 x4 2 M
noncomputable def j_X12_addItem_27   (x1 : Int) (x2 : Int) (x3 : Int) (x4 : Int) (y0 : Int) (M : Mem) : Option (Int × Mem) :=
  (if w32 y0 = 0 then j_X12_addItem_81 x1 x2 x3 x4 1 M else cl1 (f_X12_in x3 1 50 M) (fun r_6 => (if w32 r_6 = 0 then j_X12_addItem_61 x1 x2 x3 x4 M else cl1 (f_X12_in x4 0 999 M) (fun r_8 => (if w32 r_8 = 0 then j_X12_addItem_61 x1 x2 x3 x4 M else (if w32 (M 140 3) = 24 then j_X12_addItem_81 x1 x2 x3 x4 3 M else j_X12_addItem_81 x1 x2 x3 x4 0 M))))))
noncomputable def j_X12_addItem_26   (x1 : Int) (x2 : Int) (x3 : Int) (x4 : Int) (M : Mem) : Option (Int × Mem) :=
  j_X12_addItem_27 x1 x2 x3 x4 0 M
noncomputable def f_X12_addItem  (x1 : Int) (x2 : Int) (x3 : Int) (x4 : Int) (M : Mem) : Option (Int × Mem) :=
  cl1 (f_X12_isAisle x1 M) (fun r_1 => (if w32 r_1 = 0 then j_X12_addItem_26 x1 x2 x3 x4 M else cl1 (f_X12_in x2 1 (M 140 1) M) (fun r_10 => (if w32 r_10 = 0 then j_X12_addItem_26 x1 x2 x3 x4 M else j_X12_addItem_27 x1 x2 x3 x4 1 M))))
noncomputable def j_X12_stock_14   (x1 : Int) (y1 : Int) (M : Mem) : Option (Int × Mem) :=
  bnd (upd2 M 139 0 y1) (fun M_3 => (if 0 < w32 (M_3 139 0) then some (0, M_3) else cl1 (f_X12_ofItem x1 3 M_3) (fun r_4 => some (r_4, M_3))))
noncomputable def f_X12_stock  (x1 : Int) (M : Mem) : Option (Int × Mem) :=
  cl1 (f_X12_isItem x1 M) (fun r_1 => (if w32 r_1 = 0 then j_X12_stock_14 x1 1 M else j_X12_stock_14 x1 0 M))
noncomputable def j_X12_restock_43   (x1 : Int) (x2 : Int) (y1 : Int) (M : Mem) : Option (Int × Mem) :=
  bnd (upd2 M 139 0 y1) (fun M_3 => (if 0 < w32 (M_3 139 0) then some (0, M_3) else gi ((13 + (4 * x1)) + 3) 469 (gi ((13 + (4 * x1)) + 3) 469 (bnd (upd2 M_3 140 (ix ((13 + (4 * x1)) + 3)) ((M_3 140 (ix ((13 + (4 * x1)) + 3))) + x2)) (fun M_5 => cl1 (f_X12_ofItem x1 3 M_5) (fun r_7 => some (r_7, M_5)))))))
noncomputable def j_X12_restock_38   (x1 : Int) (x2 : Int) (M : Mem) : Option (Int × Mem) :=
  j_X12_restock_43 x1 x2 2 M
noncomputable def f_X12_restock  (x1 : Int) (x2 : Int) (M : Mem) : Option (Int × Mem) :=
  cl1 (f_X12_isItem x1 M) (fun r_1 => (if w32 r_1 = 0 then j_X12_restock_43 x1 x2 1 M else cl1 (f_X12_in x2 1 999 M) (fun r_9 => (if w32 r_9 = 0 then j_X12_restock_38 x1 x2 M else cl1 (f_X12_ofItem x1 3 M) (fun r_11 => (if 999 < w32 (r_11 + x2) then j_X12_restock_38 x1 x2 M else j_X12_restock_43 x1 x2 0 M))))))
noncomputable def j_X12_addOrder_32   (x1 : Int) (y1 : Int) (M : Mem) : Option (Int × Mem) :=
  bnd (upd2 M 139 0 y1) (fun M_3 => (if 0 < w32 (M_3 139 0) then some (0, M_3) else cl2 (f_X12_opensOrder x1 M_3) (fun r_4 M_5 => some (r_4, M_5))))
noncomputable def f_X12_addOrder  (x1 : Int) (M : Mem) : Option (Int × Mem) :=
  cl1 (f_X12_in x1 0 9999 M) (fun r_1 => (if w32 r_1 = 0 then j_X12_addOrder_32 x1 1 M else (if w32 (M 140 4) = 16 then j_X12_addOrder_32 x1 2 M else j_X12_addOrder_32 x1 0 M)))
noncomputable def j_X12_hasLine_40_5   (x1 : Int) (x2 : Int) (x4 : Int) (y0 : Int) (M : Mem) : Option ((Int × Int) ⊕ ((Int) ⊕ (Int))) :=
  bnd (x4 + 1) (fun x4_6 => some (.inl (y0, x4_6)))
noncomputable def j_X12_hasLine_35_5   (x1 : Int) (x2 : Int) (x4 : Int) (M : Mem) : Option ((Int × Int) ⊕ ((Int) ⊕ (Int))) :=
  j_X12_hasLine_40_5 x1 x2 x4 1 M
noncomputable def s_X12_hasLine_5  (x1 : Int) (x2 : Int) (M : Mem) (x3 : Int) (x4 : Int) : Option ((Int × Int) ⊕ ((Int) ⊕ (Int))) :=
  cl1 (f_X12_ofOrder x1 2 M) (fun r_1 => (if w32 x4 < w32 r_1 then (if w32 x3 = 0 then cl1 (f_X12_lineAt x1 x4 M) (fun r_3 => gi r_3 469 ((if w32 (M 140 (ix r_3)) = w32 x2 then j_X12_hasLine_35_5 x1 x2 x4 M else j_X12_hasLine_40_5 x1 x2 x4 0 M))) else j_X12_hasLine_35_5 x1 x2 x4 M) else some (.inr (.inl x3))))
noncomputable def f_X12_hasLine  (x1 : Int) (x2 : Int) (M : Mem) : Option (Int) :=
  lpb (wh (fun x => s_X12_hasLine_5 x1 x2 M x.1 x.2) (0, 0)) (fun z_7 => gz z_7 (some z_7)) (fun q => some q)
noncomputable def f_X12_addsLine  (x1 : Int) (x2 : Int) (x3 : Int) (M : Mem) : Option (Int × Mem) :=
  cl1 (f_X12_ofOrder x1 2 M) (fun r_1 => cl1 (f_X12_lineAt x1 r_1 M) (fun r_3 => gi r_3 469 (bnd (upd2 M 140 (ix r_3) x2) (fun M_5 => cl1 (f_X12_lineAt x1 r_1 M_5) (fun r_7 => gi (r_7 + 1) 469 (bnd (upd2 M_5 140 (ix (r_7 + 1)) x3) (fun M_9 => cl1 (f_X12_lineAt x1 r_1 M_9) (fun r_11 => gi (r_11 + 2) 469 (bnd (upd2 M_9 140 (ix (r_11 + 2)) 0) (fun M_13 => cl1 (f_X12_orderAt x1 M_13) (fun r_15 => gi (r_15 + 2) 469 (gi (r_15 + 2) 469 (bnd (upd2 M_13 140 (ix (r_15 + 2)) ((M_13 140 (ix (r_15 + 2))) + 1)) (fun M_18 => some (r_1, M_18)))))))))))))))
noncomputable def j_X12_told_14   (x1 : Int) (x2 : Int) (y1 : Int) (M : Mem) : Option (Int × Mem) :=
  bnd (upd2 M 139 0 y1) (fun M_3 => (if 0 < w32 (M_3 139 0) then some (0, M_3) else cl1 (f_X12_ofOrder x1 x2 M_3) (fun r_4 => some (r_4, M_3))))
noncomputable def f_X12_told  (x1 : Int) (x2 : Int) (M : Mem) : Option (Int × Mem) :=
  cl1 (f_X12_isOrder x1 M) (fun r_1 => (if w32 r_1 = 0 then j_X12_told_14 x1 x2 1 M else j_X12_told_14 x1 x2 0 M))
noncomputable def f_X12_isAlive  (x1 : Int) (M : Mem) : Option (Int) :=
  cl1 (f_X12_ofOrder x1 1 M) (fun r_1 => (if w32 r_1 < 2 then some 1 else some 0))
noncomputable def s_X12_weightOf_4  (x1 : Int) (M : Mem) (x2 : Int) (x3 : Int) : Option ((Int × Int) ⊕ ((Int) ⊕ (Int))) :=
  cl1 (f_X12_ofOrder x1 2 M) (fun r_1 => (if w32 x3 < w32 r_1 then cl1 (f_X12_lineAt x1 x3 M) (fun r_3 => gi (r_3 + 1) 469 (cl1 (f_X12_lineAt x1 x3 M) (fun r_6 => gi r_6 469 (cl1 (f_X12_ofItem (M 140 (ix r_6)) 2 M) (fun r_9 => bnd (x2 + ((M 140 (ix (r_3 + 1))) * r_9)) (fun x2_11 => bnd (x3 + 1) (fun x3_12 => some (.inl (x2_11, x3_12))))))))) else some (.inr (.inl x2))))
noncomputable def f_X12_weightOf  (x1 : Int) (M : Mem) : Option (Int) :=
  lpb (wh (fun x => s_X12_weightOf_4 x1 M x.1 x.2) (0, 0)) (fun z_13 => some z_13) (fun q => some q)
noncomputable def s_X12_aislesOf_4  (x1 : Int) (M : Mem) (x2 : Int) (x3 : Int) : Option ((Int × Int) ⊕ ((Int) ⊕ (Int))) :=
  cl1 (f_X12_ofOrder x1 2 M) (fun r_1 => (if w32 x3 < w32 r_1 then cl1 (f_X12_lineAt x1 x3 M) (fun r_3 => gi r_3 469 (cl1 (f_X12_ofItem (M 140 (ix r_3)) 0 M) (fun r_6 => bnd (i_or x2 (i_shl 1 r_6)) (fun x2_8 => bnd (x3 + 1) (fun x3_9 => some (.inl (x2_8, x3_9))))))) else some (.inr (.inl x2))))
noncomputable def f_X12_aislesOf  (x1 : Int) (M : Mem) : Option (Int) :=
  lpb (wh (fun x => s_X12_aislesOf_4 x1 M x.1 x.2) (0, 0)) (fun z_10 => some z_10) (fun q => some q)
noncomputable def f_X12_leaves  (x1 : Int) (M : Mem) : Option (Mem) :=
  cl1 (f_X12_batchOf x1 M) (fun r_1 => gi (461 + r_1) 469 (gi (461 + r_1) 469 (bnd (upd2 M 140 (ix (461 + r_1)) (i_and (M 140 (ix (461 + r_1))) (i_xor (i_shl 1 x1) (-1)))) (fun M_4 => gi (461 + r_1) 469 ((if w32 (M_4 140 (ix (461 + r_1))) = 0 then cl1 (f_X12_removes r_1 M_4) (fun M_8 => some M_8) else some M_4))))))
noncomputable def f_X12_addsBatch  (x1 : Int) (M : Mem) : Option (Int × Mem) :=
  gi (461 + (M 140 5)) 469 (bnd (upd2 M 140 (ix (461 + (M 140 5))) x1) (fun M_1 => bnd (upd2 M_1 140 5 ((M_1 140 5) + 1)) (fun M_3 => cl1 (f_X12_setsStates x1 1 M_3) (fun M_5 => some (((M_5 140 5) - 1), M_5)))))
noncomputable def f_X12_canBatch  (x1 : Int) (M : Mem) : Option (Int) :=
  cl1 (f_X12_ofOrder x1 1 M) (fun r_1 => (if w32 r_1 = 0 then cl1 (f_X12_ofOrder x1 2 M) (fun r_3 => (if 0 < w32 r_3 then some 1 else some 0)) else some 0))
noncomputable def j_X12_dissolve_14   (x1 : Int) (y1 : Int) (M : Mem) : Option (Int × Mem) :=
  bnd (upd2 M 139 0 y1) (fun M_3 => (if 0 < w32 (M_3 139 0) then some (0, M_3) else gi (461 + x1) 469 (cl1 (f_X12_setsStates (M_3 140 (ix (461 + x1))) 0 M_3) (fun M_6 => cl1 (f_X12_removes x1 M_6) (fun M_8 => some ((M_8 140 5), M_8))))))
noncomputable def f_X12_dissolve  (x1 : Int) (M : Mem) : Option (Int × Mem) :=
  cl1 (f_X12_isBatch x1 M) (fun r_1 => (if w32 r_1 = 0 then j_X12_dissolve_14 x1 1 M else j_X12_dissolve_14 x1 0 M))
noncomputable def j_X12_batchOrders_14   (x1 : Int) (y1 : Int) (M : Mem) : Option (Int × Mem) :=
  bnd (upd2 M 139 0 y1) (fun M_3 => (if 0 < w32 (M_3 139 0) then some (0, M_3) else gi (461 + x1) 469 (some ((M_3 140 (ix (461 + x1))), M_3))))
noncomputable def f_X12_batchOrders  (x1 : Int) (M : Mem) : Option (Int × Mem) :=
  cl1 (f_X12_isBatch x1 M) (fun r_1 => (if w32 r_1 = 0 then j_X12_batchOrders_14 x1 1 M else j_X12_batchOrders_14 x1 0 M))
noncomputable def s_X12_laysSpots_2  (x1 : Int) (x2 : Int) (M : Mem) : Option ((Int × Mem) ⊕ ((Mem) ⊕ (Mem))) :=
  (if w32 x2 < 126 then gi x2 126 (bnd (upd2 M 144 (ix x2) (i_z 0)) (fun M_1 => bnd (x2 + 1) (fun x2_3 => some (.inl (x2_3, M_1))))) else some (.inr (.inl M)))
noncomputable def s_X12_laysSpots_23  (x1 : Int) (x2 : Int) (M : Mem) : Option ((Int × Mem) ⊕ ((Mem) ⊕ (Mem))) :=
  (if w32 x2 < 24 then gi x2 24 (bnd (upd2 M 145 (ix x2) (i_z 0)) (fun M_5 => bnd (x2 + 1) (fun x2_7 => some (.inl (x2_7, M_5))))) else some (.inr (.inl M)))
noncomputable def s_X12_laysSpots_52  (x1 : Int) (x2 : Int) (x3 : Int) (M : Mem) : Option ((Int × Mem) ⊕ ((Mem) ⊕ (Mem))) :=
  cl1 (f_X12_has x1 x2 M) (fun r_9 => (if w32 r_9 = 0 then some (.inr (.inl M)) else cl1 (f_X12_ofOrder x2 2 M) (fun r_11 => (if w32 x3 < w32 r_11 then cl1 (f_X12_lineAt x2 x3 M) (fun r_13 => gi r_13 469 (bnd (M 140 (ix r_13)) (fun x4_16 => gi x4_16 24 (bnd (upd2 M 145 (ix x4_16) (i_z 1)) (fun M_17 => cl1 (f_X12_ofItem x4_16 0 M_17) (fun r_19 => cl1 (f_X12_ofItem x4_16 1 M_17) (fun r_21 => gi ((21 * r_19) + r_21) 126 (bnd (upd2 M_17 144 (ix ((21 * r_19) + r_21)) (i_z 1)) (fun M_23 => bnd (x3 + 1) (fun x3_25 => some (.inl (x3_25, M_23)))))))))))) else some (.inr (.inl M))))))
noncomputable def j_X12_laysSpots_120_44   (x1 : Int) (x2 : Int) (M : Mem) : Option ((Int × Mem) ⊕ ((Mem) ⊕ (Mem))) :=
  bnd (x2 + 1) (fun x2_27 => some (.inl (x2_27, M)))
noncomputable def s_X12_laysSpots_44  (x1 : Int) (x2 : Int) (M : Mem) : Option ((Int × Mem) ⊕ ((Mem) ⊕ (Mem))) :=
  (if w32 x2 < 16 then lpb (wh (fun x => s_X12_laysSpots_52 x1 x2 x.1 x.2) (0, M)) (fun z_26 => j_X12_laysSpots_120_44 x1 x2 z_26) (fun q => some (.inr (.inr q))) else some (.inr (.inl M)))
noncomputable def f_X12_laysSpots  (x1 : Int) (M : Mem) : Option (Mem) :=
  lpb (wh (fun x => s_X12_laysSpots_2 x1 x.1 x.2) (0, M)) (fun z_4 => lpb (wh (fun x => s_X12_laysSpots_23 x1 x.1 x.2) (0, z_4)) (fun z_8 => lpb (wh (fun x => s_X12_laysSpots_44 x1 x.1 x.2) (0, z_8)) (fun z_28 => some z_28) (fun q => some q)) (fun q => some q)) (fun q => some q)
noncomputable def j_X12_laysAisles_48_11   (x1 : Int) (x2 : Int) (M : Mem) : Option ((Int × Mem) ⊕ ((Mem) ⊕ (Mem))) :=
  bnd (x2 + 1) (fun x2_11 => some (.inl (x2_11, M)))
noncomputable def s_X12_laysAisles_11  (x1 : Int) (x2 : Int) (M : Mem) : Option ((Int × Mem) ⊕ ((Mem) ⊕ (Mem))) :=
  cl1 (f_X12_behind x1 M) (fun r_4 => (if w32 x2 < w32 r_4 then cl1 (f_X12_highest x2 M) (fun r_6 => (if 0 < w32 r_6 then gi (M 139 8) 6 (bnd (upd2 M 146 (ix (M 139 8)) x2) (fun M_8 => bnd (upd2 M_8 139 8 ((M_8 139 8) + 1)) (fun M_10 => j_X12_laysAisles_48_11 x1 x2 M_10))) else j_X12_laysAisles_48_11 x1 x2 M)) else some (.inr (.inl M))))
noncomputable def f_X12_laysAisles  (x1 : Int) (M : Mem) : Option (Mem) :=
  bnd (upd2 M 139 8 0) (fun M_1 => cl1 (f_X12_firstOf x1 M_1) (fun r_2 => lpb (wh (fun x => s_X12_laysAisles_11 x1 x.1 x.2) (r_2, M_1)) (fun z_12 => some z_12) (fun q => some q)))
noncomputable def j_X12_bestChoice_39_4   (x2 : Int) (y0 : Int) (M : Mem) : Option ((Int × Int) ⊕ ((Int) ⊕ (Int))) :=
  bnd (x2 + 1) (fun x2_3 => some (.inl (y0, x2_3)))
noncomputable def j_X12_bestChoice_38_4   (x1 : Int) (x2 : Int) (M : Mem) : Option ((Int × Int) ⊕ ((Int) ⊕ (Int))) :=
  j_X12_bestChoice_39_4 x2 x1 M
noncomputable def s_X12_bestChoice_4  (M : Mem) (x1 : Int) (x2 : Int) : Option ((Int × Int) ⊕ ((Int) ⊕ (Int))) :=
  (if w32 x2 < w32 (i_shl 1 (M 139 8)) then cl1 (f_X12_combinedBy x2 M) (fun r_1 => (if w32 r_1 = (-1) then j_X12_bestChoice_38_4 x1 x2 M else cl1 (f_X12_combinedBy x1 M) (fun r_4 => (if w32 r_1 < w32 r_4 then j_X12_bestChoice_39_4 x2 x2 M else j_X12_bestChoice_38_4 x1 x2 M)))) else some (.inr (.inl x1)))
noncomputable def f_X12_bestChoice  (M : Mem) : Option (Int) :=
  lpb (wh (fun x => s_X12_bestChoice_4 M x.1 x.2) (0, 1)) (fun z_6 => some z_6) (fun q => some q)
noncomputable def s_X12_gapOf_22  (x1 : Int) (x2 : Int) (M : Mem) : Option ((Int × Int × Mem) ⊕ ((Int × Mem) ⊕ (Int × Mem))) :=
  (if w32 x2 < w32 ((M 139 8) - 1) then gi x2 6 (cl1 (f_X12_seeksGap (M 146 (ix x2)) M) (fun M_8 => cl1 (f_X12_through M_8) (fun r_9 => bnd (x1 + (2 * (r_9 - (M_8 139 10)))) (fun x1_11 => bnd (x2 + 1) (fun x2_12 => some (.inl (x1_11, x2_12, M_8))))))) else some (.inr (.inl (x1, M))))
noncomputable def f_X12_gapOf  (M : Mem) : Option (Int × Mem) :=
  (if w32 (M 139 8) = 1 then cl1 (f_X12_returnOf M) (fun r_1 => some (r_1, M)) else cl1 (f_X12_through M) (fun r_3 => bnd (2 * r_3) (fun x1_5 => lpb (wh (fun x => s_X12_gapOf_22 x.1 x.2.1 x.2.2) (x1_5, 1, M)) (fun z_13 => some (z_13.1, z_13.2)) (fun q => some q))))
noncomputable def s_X12_zoneOf_28  (x1 : Int) (M : Mem) (x2 : Int) : Option ((Int) ⊕ ((Int) ⊕ (Int × Mem))) :=
  cl1 (f_X12_behind x2 M) (fun r_4 => (if w32 x1 < w32 r_4 then some (.inr (.inl x2)) else bnd (x2 + 1) (fun x2_6 => some (.inl x2_6))))
noncomputable def j_X12_zoneOf_14   (x1 : Int) (y1 : Int) (M : Mem) : Option (Int × Mem) :=
  bnd (upd2 M 139 0 y1) (fun M_3 => (if 0 < w32 (M_3 139 0) then some (0, M_3) else lpb (wh (fun x => s_X12_zoneOf_28 x1 M_3 x) 0) (fun z_7 => some (z_7, M_3)) (fun q => some q)))
noncomputable def f_X12_zoneOf  (x1 : Int) (M : Mem) : Option (Int × Mem) :=
  cl1 (f_X12_isAisle x1 M) (fun r_1 => (if w32 r_1 = 0 then j_X12_zoneOf_14 x1 1 M else j_X12_zoneOf_14 x1 0 M))
noncomputable def f_X12_isPart  (x1 : Int) (x2 : Int) (M : Mem) : Option (Int) :=
  cl1 (f_X12_isBatch x1 M) (fun r_1 => (if w32 r_1 = 0 then some 0 else cl1 (f_X12_isZone x2 M) (fun r_3 => (if w32 r_3 = 0 then some 0 else some 1))))
noncomputable def s_X12_goesUp_3  (x1 : Int) (x3 : Int) (x4 : Int) (M : Mem) : Option ((Int × Mem) ⊕ ((Mem) ⊕ (Mem))) :=
  (if w32 x3 < w32 x4 then some (.inr (.inl M)) else cl1 (f_X12_stopsAt x1 x4 M) (fun M_2 => bnd (x4 + 1) (fun x4_3 => some (.inl (x4_3, M_2)))))
noncomputable def f_X12_goesUp  (x1 : Int) (x2 : Int) (x3 : Int) (M : Mem) : Option (Mem) :=
  lpb (wh (fun x => s_X12_goesUp_3 x1 x3 x.1 x.2) (x2, M)) (fun z_4 => some z_4) (fun q => some q)
noncomputable def s_X12_goesDown_3  (x1 : Int) (x3 : Int) (x4 : Int) (M : Mem) : Option ((Int × Mem) ⊕ ((Mem) ⊕ (Mem))) :=
  (if w32 x4 < w32 x3 then some (.inr (.inl M)) else cl1 (f_X12_stopsAt x1 x4 M) (fun M_2 => bnd (x4 + (-1)) (fun x4_3 => some (.inl (x4_3, M_2)))))
noncomputable def f_X12_goesDown  (x1 : Int) (x2 : Int) (x3 : Int) (M : Mem) : Option (Mem) :=
  lpb (wh (fun x => s_X12_goesDown_3 x1 x3 x.1 x.2) (x2, M)) (fun z_4 => some z_4) (fun q => some q)
noncomputable def j_X12_laysTimes_129_14   (x1 : Int) (x2 : Int) (y1 : Int) (y2 : Int) (M : Mem) : Option ((Int × Mem) ⊕ ((Mem) ⊕ (Mem))) :=
  gi y1 24 (bnd (upd2 M 151 (ix y1) y2) (fun M_12 => bnd (x2 + 1) (fun x2_14 => some (.inl (x2_14, M_12)))))
noncomputable def j_X12_laysTimes_73_14   (x1 : Int) (x2 : Int) (x3 : Int) (y1 : Int) (y2 : Int) (M : Mem) : Option ((Int × Mem) ⊕ ((Mem) ⊕ (Mem))) :=
  gi y1 24 (bnd (upd2 M 150 (ix y1) y2) (fun M_4 => gi x3 24 (gi x1 8 (gi ((3 * (M_4 149 (ix x1))) + x2) 24 (bnd ((M_4 150 (ix x3)) + (M_4 148 (ix ((3 * (M_4 149 (ix x1))) + x2)))) (fun x5_9 => cl1 (f_X12_zones M_4) (fun r_10 => (if w32 x2 = w32 (r_10 - 1) then j_X12_laysTimes_129_14 x1 x2 x3 x5_9 M_4 else cl1 (f_X12_whenRoom x1 x2 M_4) (fun r_15 => cl1 (f_X12_greater x5_9 r_15 M_4) (fun r_17 => j_X12_laysTimes_129_14 x1 x2 x3 r_17 M_4))))))))))
noncomputable def j_X12_laysTimes_44_14   (x1 : Int) (x2 : Int) (x3 : Int) (y0 : Int) (M : Mem) : Option ((Int × Mem) ⊕ ((Mem) ⊕ (Mem))) :=
  (if w32 x1 = 0 then j_X12_laysTimes_73_14 x1 x2 x3 x3 y0 M else gi (x3 - 3) 24 (cl1 (f_X12_greater y0 (M 151 (ix (x3 - 3))) M) (fun r_20 => j_X12_laysTimes_73_14 x1 x2 x3 x3 r_20 M)))
noncomputable def s_X12_laysTimes_14  (x1 : Int) (x2 : Int) (M : Mem) : Option ((Int × Mem) ⊕ ((Mem) ⊕ (Mem))) :=
  cl1 (f_X12_zones M) (fun r_1 => (if w32 x2 < w32 r_1 then bnd ((3 * x1) + x2) (fun x3_3 => (if w32 x2 = 0 then j_X12_laysTimes_44_14 x1 x2 x3_3 0 M else gi (x3_3 - 1) 24 (j_X12_laysTimes_44_14 x1 x2 x3_3 (M 151 (ix (x3_3 - 1))) M))) else some (.inr (.inl M))))
noncomputable def s_X12_laysTimes_2  (x1 : Int) (M : Mem) : Option ((Int × Mem) ⊕ ((Mem) ⊕ (Mem))) :=
  (if w32 x1 < w32 (M 140 5) then lpb (wh (fun x => s_X12_laysTimes_14 x1 x.1 x.2) (0, M)) (fun z_23 => bnd (x1 + 1) (fun x1_24 => some (.inl (x1_24, z_23)))) (fun q => some (.inr (.inr q))) else some (.inr (.inl M)))
noncomputable def f_X12_laysTimes  (M : Mem) : Option (Mem) :=
  lpb (wh (fun x => s_X12_laysTimes_2 x.1 x.2) (0, M)) (fun z_25 => some z_25) (fun q => some q)
noncomputable def j_X12_tardiness_69_16   (x2 : Int) (x3 : Int) (y0 : Int) (y1 : Int) (M : Mem) : Option ((Int × Int) ⊕ ((Int) ⊕ (Int))) :=
  bnd (y0 + y1) (fun x1_5 => bnd (x3 + 1) (fun x3_6 => some (.inl (x1_5, x3_6))))
noncomputable def s_X12_tardiness_16  (x2 : Int) (M : Mem) (x1 : Int) (x3 : Int) : Option ((Int × Int) ⊕ ((Int) ⊕ (Int))) :=
  (if w32 x3 < w32 (M 140 4) then gi x2 8 (gi (461 + (M 149 (ix x2))) 469 (cl1 (f_X12_has (M 140 (ix (461 + (M 149 (ix x2))))) x3 M) (fun r_3 => (if w32 r_3 = 0 then j_X12_tardiness_69_16 x2 x3 x1 0 M else cl1 (f_X12_completes x2 M) (fun r_7 => cl1 (f_X12_ofOrder x3 0 M) (fun r_9 => cl1 (f_X12_greater 0 (r_7 - r_9) M) (fun r_11 => j_X12_tardiness_69_16 x2 x3 x1 r_11 M))))))) else some (.inr (.inl x1)))
noncomputable def s_X12_tardiness_4  (M : Mem) (x1 : Int) (x2 : Int) : Option ((Int × Int) ⊕ ((Int) ⊕ (Int))) :=
  (if w32 x2 < w32 (M 140 5) then lpb (wh (fun x => s_X12_tardiness_16 x2 M x.1 x.2) (x1, 0)) (fun z_13 => bnd (x2 + 1) (fun x2_14 => some (.inl (z_13, x2_14)))) (fun q => some (.inr (.inr q))) else some (.inr (.inl x1)))
noncomputable def f_X12_tardiness  (M : Mem) : Option (Int) :=
  lpb (wh (fun x => s_X12_tardiness_4 M x.1 x.2) (0, 0)) (fun z_15 => some z_15) (fun q => some q)
noncomputable def j_X12_earliestOf_44_6   (x1 : Int) (x3 : Int) (y0 : Int) (M : Mem) : Option ((Int × Int) ⊕ ((Int) ⊕ (Int))) :=
  bnd (x3 + 1) (fun x3_3 => some (.inl (y0, x3_3)))
noncomputable def j_X12_earliestOf_43_6   (x1 : Int) (x2 : Int) (x3 : Int) (M : Mem) : Option ((Int × Int) ⊕ ((Int) ⊕ (Int))) :=
  j_X12_earliestOf_44_6 x1 x3 x2 M
noncomputable def s_X12_earliestOf_6  (x1 : Int) (M : Mem) (x2 : Int) (x3 : Int) : Option ((Int × Int) ⊕ ((Int) ⊕ (Int))) :=
  (if w32 x3 < w32 (M 140 4) then cl1 (f_X12_has x1 x3 M) (fun r_1 => (if w32 r_1 = 0 then j_X12_earliestOf_43_6 x1 x2 x3 M else cl1 (f_X12_ofOrder x3 0 M) (fun r_4 => (if w32 r_4 < w32 x2 then cl1 (f_X12_ofOrder x3 0 M) (fun r_6 => j_X12_earliestOf_44_6 x1 x3 r_6 M) else j_X12_earliestOf_43_6 x1 x2 x3 M)))) else some (.inr (.inl x2)))
noncomputable def f_X12_earliestOf  (x1 : Int) (M : Mem) : Option (Int) :=
  lpb (wh (fun x => s_X12_earliestOf_6 x1 M x.1 x.2) (9999, 0)) (fun z_8 => some z_8) (fun q => some q)
noncomputable def s_X12_pickBatch_53  (x1 : Int) (x3 : Int) (x2 : Int) (x4 : Int) (M : Mem) : Option ((Int × Int × Mem) ⊕ ((Int × Mem) ⊕ (Int × Mem))) :=
  cl1 (f_X12_has x1 x3 M) (fun r_3 => (if w32 r_3 = 0 then some (.inr (.inl (x2, M))) else cl1 (f_X12_ofOrder x3 2 M) (fun r_5 => (if w32 x4 < w32 r_5 then cl2 (f_X12_picks x3 x4 M) (fun r_7 M_8 => bnd (x2 + r_7) (fun x2_9 => bnd (x4 + 1) (fun x4_10 => some (.inl (x2_9, x4_10, M_8))))) else some (.inr (.inl (x2, M)))))))
noncomputable def j_X12_pickBatch_88_40   (x1 : Int) (x2 : Int) (x3 : Int) (M : Mem) : Option ((Int × Int × Mem) ⊕ ((Int × Mem) ⊕ (Int × Mem))) :=
  bnd (x3 + 1) (fun x3_12 => some (.inl (x2, x3_12, M)))
noncomputable def s_X12_pickBatch_40  (x1 : Int) (x2 : Int) (x3 : Int) (M : Mem) : Option ((Int × Int × Mem) ⊕ ((Int × Mem) ⊕ (Int × Mem))) :=
  (if w32 x3 < w32 (M 140 4) then lpb (wh (fun x => s_X12_pickBatch_53 x1 x3 x.1 x.2.1 x.2.2) (x2, 0, M)) (fun z_11 => j_X12_pickBatch_88_40 x1 z_11.1 x3 z_11.2) (fun q => some (.inr (.inr q))) else some (.inr (.inl (x2, M))))
noncomputable def j_X12_pickBatch_15   (y1 : Int) (M : Mem) : Option (Int × Mem) :=
  bnd (upd2 M 139 0 y1) (fun M_1 => (if 0 < w32 (M_1 139 0) then some (0, M_1) else bnd (M_1 140 461) (fun x1_2 => lpb (wh (fun x => s_X12_pickBatch_40 x1_2 x.1 x.2.1 x.2.2) (0, 0, M_1)) (fun z_13 => cl1 (f_X12_setsStates x1_2 2 z_13.2) (fun M_15 => cl1 (f_X12_removes 0 M_15) (fun M_17 => some (z_13.1, M_17)))) (fun q => some q))))
noncomputable def f_X12_pickBatch  (M : Mem) : Option (Int × Mem) :=
  (if 0 < w32 (M 140 5) then j_X12_pickBatch_15 0 M else j_X12_pickBatch_15 1 M)
noncomputable def j_X12_ofLine_30   (x1 : Int) (x2 : Int) (x3 : Int) (y1 : Int) (M : Mem) : Option (Int × Mem) :=
  bnd (upd2 M 139 0 y1) (fun M_3 => (if 0 < w32 (M_3 139 0) then some (0, M_3) else cl1 (f_X12_ofOrder x1 1 M_3) (fun r_4 => (if w32 r_4 = 2 then cl1 (f_X12_lineAt x1 x2 M_3) (fun r_6 => (if w32 x3 = 0 then gi (r_6 + 2) 469 (some ((M_3 140 (ix (r_6 + 2))), M_3)) else gi (r_6 + 1) 469 (gi (r_6 + 2) 469 (some (((M_3 140 (ix (r_6 + 1))) - (M_3 140 (ix (r_6 + 2)))), M_3))))) else some (0, M_3)))))
noncomputable def j_X12_ofLine_29   (x1 : Int) (x2 : Int) (x3 : Int) (M : Mem) : Option (Int × Mem) :=
  j_X12_ofLine_30 x1 x2 x3 1 M
noncomputable def f_X12_ofLine  (x1 : Int) (x2 : Int) (x3 : Int) (M : Mem) : Option (Int × Mem) :=
  cl1 (f_X12_isOrder x1 M) (fun r_1 => (if w32 r_1 = 0 then j_X12_ofLine_29 x1 x2 x3 M else cl1 (f_X12_ofOrder x1 2 M) (fun r_11 => cl1 (f_X12_in x2 0 (r_11 - 1) M) (fun r_13 => (if w32 r_13 = 0 then j_X12_ofLine_29 x1 x2 x3 M else j_X12_ofLine_30 x1 x2 x3 0 M)))))
noncomputable def s_X12_sumOf_22  (x1 : Int) (x3 : Int) (M : Mem) (x2 : Int) (x4 : Int) : Option ((Int × Int) ⊕ ((Int) ⊕ (Int × Mem))) :=
  cl1 (f_X12_ofOrder x3 1 M) (fun r_2 => (if w32 r_2 = 2 then cl1 (f_X12_ofOrder x3 2 M) (fun r_4 => (if w32 x4 < w32 r_4 then cl1 (f_X12_lineAt x3 x4 M) (fun r_6 => gi (r_6 + x1) 469 (bnd (x2 + (M 140 (ix (r_6 + x1)))) (fun x2_9 => bnd (x4 + 1) (fun x4_10 => some (.inl (x2_9, x4_10)))))) else some (.inr (.inl x2)))) else some (.inr (.inl x2))))
noncomputable def j_X12_sumOf_65_9   (x1 : Int) (x2 : Int) (x3 : Int) (M : Mem) : Option ((Int × Int) ⊕ ((Int) ⊕ (Int × Mem))) :=
  bnd (x3 + 1) (fun x3_12 => some (.inl (x2, x3_12)))
noncomputable def s_X12_sumOf_9  (x1 : Int) (M : Mem) (x2 : Int) (x3 : Int) : Option ((Int × Int) ⊕ ((Int) ⊕ (Int × Mem))) :=
  (if w32 x3 < w32 (M 140 4) then lpb (wh (fun x => s_X12_sumOf_22 x1 x3 M x.1 x.2) (x2, 0)) (fun z_11 => j_X12_sumOf_65_9 x1 z_11 x3 M) (fun q => some (.inr (.inr q))) else some (.inr (.inl x2)))
noncomputable def f_X12_sumOf  (x1 : Int) (M : Mem) : Option (Int × Mem) :=
  bnd (upd2 M 139 0 0) (fun M_1 => lpb (wh (fun x => s_X12_sumOf_9 x1 M_1 x.1 x.2) (0, 0)) (fun z_13 => some (z_13, M_1)) (fun q => some q))
noncomputable def s_X12_shortOf_4  (x1 : Int) (M : Mem) (x2 : Int) (x3 : Int) : Option ((Int × Int) ⊕ ((Int) ⊕ (Int))) :=
  cl1 (f_X12_ofOrder x1 2 M) (fun r_1 => (if w32 x3 < w32 r_1 then cl1 (f_X12_lineAt x1 x3 M) (fun r_3 => gi (r_3 + 1) 469 (cl1 (f_X12_lineAt x1 x3 M) (fun r_6 => gi (r_6 + 2) 469 (bnd (x2 + ((M 140 (ix (r_3 + 1))) - (M 140 (ix (r_6 + 2))))) (fun x2_9 => bnd (x3 + 1) (fun x3_10 => some (.inl (x2_9, x3_10)))))))) else some (.inr (.inl x2))))
noncomputable def f_X12_shortOf  (x1 : Int) (M : Mem) : Option (Int) :=
  lpb (wh (fun x => s_X12_shortOf_4 x1 M x.1 x.2) (0, 0)) (fun z_11 => some z_11) (fun q => some q)
noncomputable def j_X12_next_18_0   (M : Mem) : Option ((Mem) ⊕ ((Mem) ⊕ (Mem))) :=
  bnd (upd2 M 139 24 ((M 139 24) + 1)) (fun M_3 => some (.inl M_3))
noncomputable def s_X12_next_0  (M : Mem) : Option ((Mem) ⊕ ((Mem) ⊕ (Mem))) :=
  cl1 (f_X12_see M) (fun r_1 => (if w32 r_1 = 32 then j_X12_next_18_0 M else cl1 (f_X12_see M) (fun r_4 => (if w32 r_4 = 10 then j_X12_next_18_0 M else some (.inr (.inl M))))))
noncomputable def s_X12_next_126  (M : Mem) : Option ((Mem) ⊕ ((Mem) ⊕ (Mem))) :=
  (if w32 (M 139 26) = 1 then cl1 (f_X12_isSmall M) (fun r_13 => (if w32 r_13 = 0 then some (.inr (.inl M)) else bnd (upd2 M 139 24 ((M 139 24) + 1)) (fun M_15 => some (.inl M_15)))) else some (.inr (.inl M)))
noncomputable def j_X12_next_202_154   (y1 : Int) (M : Mem) : Option ((Mem) ⊕ ((Mem) ⊕ (Mem))) :=
  bnd (upd2 M 139 27 y1) (fun M_19 => bnd (upd2 M_19 139 24 ((M_19 139 24) + 1)) (fun M_20 => some (.inl M_20)))
noncomputable def s_X12_next_154  (M : Mem) : Option ((Mem) ⊕ ((Mem) ⊕ (Mem))) :=
  (if w32 (M 139 26) = 2 then cl1 (f_X12_isDigit M) (fun r_17 => (if w32 r_17 = 0 then some (.inr (.inl M)) else (if 100000 < w32 (M 139 27) then j_X12_next_202_154 (M 139 27) M else cl1 (f_X12_see M) (fun r_21 => j_X12_next_202_154 (((10 * (M 139 27)) + r_21) - 48) M)))) else some (.inr (.inl M)))
noncomputable def j_X12_next_122   (y1 : Int) (y2 : Int) (M : Mem) : Option (Mem) :=
  bnd (upd2 M 139 24 (y1 + y2)) (fun M_12 => lpb (wh (fun x => s_X12_next_126 x) M_12) (fun z_16 => lpb (wh (fun x => s_X12_next_154 x) z_16) (fun z_23 => some z_23) (fun q => some q)) (fun q => some q))
noncomputable def j_X12_next_117   (y1 : Int) (M : Mem) : Option (Mem) :=
  j_X12_next_122 y1 1 M
noncomputable def j_X12_next_88   (y1 : Int) (M : Mem) : Option (Mem) :=
  bnd (upd2 M 139 26 y1) (fun M_10 => bnd (upd2 M_10 139 27 0) (fun M_11 => (if w32 (M_11 139 26) = 3 then j_X12_next_117 (M_11 139 24) M_11 else (if w32 (M_11 139 26) = 4 then j_X12_next_117 (M_11 139 24) M_11 else j_X12_next_122 (M_11 139 24) 0 M_11))))
noncomputable def f_X12_next  (M : Mem) : Option (Mem) :=
  lpb (wh (fun x => s_X12_next_0 x) M) (fun z_6 => bnd (upd2 z_6 139 25 (z_6 139 24)) (fun M_7 => cl1 (f_X12_see M_7) (fun r_8 => (if w32 r_8 = (-1) then j_X12_next_88 0 M_7 else cl1 (f_X12_isSmall M_7) (fun r_24 => (if w32 r_24 = 0 then cl1 (f_X12_isDigit M_7) (fun r_26 => (if w32 r_26 = 0 then cl1 (f_X12_see M_7) (fun r_28 => (if w32 r_28 = 59 then j_X12_next_88 3 M_7 else j_X12_next_88 4 M_7)) else j_X12_next_88 2 M_7)) else j_X12_next_88 1 M_7)))))) (fun q => some q)
noncomputable def j_X12_addLine_81   (x1 : Int) (x2 : Int) (x3 : Int) (y1 : Int) (M : Mem) : Option (Int × Mem) :=
  bnd (upd2 M 139 0 y1) (fun M_3 => (if 0 < w32 (M_3 139 0) then some (0, M_3) else cl2 (f_X12_addsLine x1 x2 x3 M_3) (fun r_4 M_5 => some (r_4, M_5))))
noncomputable def j_X12_addLine_76   (x1 : Int) (x2 : Int) (x3 : Int) (M : Mem) : Option (Int × Mem) :=
  j_X12_addLine_81 x1 x2 x3 3 M
noncomputable def j_X12_addLine_21   (x1 : Int) (x2 : Int) (x3 : Int) (y0 : Int) (M : Mem) : Option (Int × Mem) :=
  (if w32 y0 = 0 then j_X12_addLine_81 x1 x2 x3 1 M else cl1 (f_X12_in x3 1 99 M) (fun r_6 => (if w32 r_6 = 0 then j_X12_addLine_81 x1 x2 x3 2 M else cl1 (f_X12_ofOrder x1 1 M) (fun r_8 => (if w32 r_8 = 0 then cl1 (f_X12_ofOrder x1 2 M) (fun r_10 => (if w32 r_10 = 6 then j_X12_addLine_76 x1 x2 x3 M else cl1 (f_X12_hasLine x1 x2 M) (fun r_12 => (if w32 r_12 = 0 then j_X12_addLine_81 x1 x2 x3 0 M else j_X12_addLine_76 x1 x2 x3 M)))) else j_X12_addLine_76 x1 x2 x3 M)))))
noncomputable def j_X12_addLine_20   (x1 : Int) (x2 : Int) (x3 : Int) (M : Mem) : Option (Int × Mem) :=
  j_X12_addLine_21 x1 x2 x3 0 M
noncomputable def f_X12_addLine  (x1 : Int) (x2 : Int) (x3 : Int) (M : Mem) : Option (Int × Mem) :=
  cl1 (f_X12_isOrder x1 M) (fun r_1 => (if w32 r_1 = 0 then j_X12_addLine_20 x1 x2 x3 M else cl1 (f_X12_isItem x2 M) (fun r_14 => (if w32 r_14 = 0 then j_X12_addLine_20 x1 x2 x3 M else j_X12_addLine_21 x1 x2 x3 1 M))))
noncomputable def f_X12_orderState  (x1 : Int) (M : Mem) : Option (Int × Mem) :=
  cl2 (f_X12_told x1 1 M) (fun r_1 M_2 => some (r_1, M_2))
noncomputable def f_X12_lineCount  (x1 : Int) (M : Mem) : Option (Int × Mem) :=
  cl2 (f_X12_told x1 2 M) (fun r_1 M_2 => some (r_1, M_2))
noncomputable def f_X12_due  (x1 : Int) (M : Mem) : Option (Int × Mem) :=
  cl2 (f_X12_told x1 0 M) (fun r_1 M_2 => some (r_1, M_2))
noncomputable def j_X12_setDue_41   (x1 : Int) (x2 : Int) (y1 : Int) (M : Mem) : Option (Int × Mem) :=
  bnd (upd2 M 139 0 y1) (fun M_3 => (if 0 < w32 (M_3 139 0) then some (0, M_3) else cl1 (f_X12_ofOrder x1 0 M_3) (fun r_4 => cl1 (f_X12_orderAt x1 M_3) (fun r_6 => gi (r_6 + 0) 469 (bnd (upd2 M_3 140 (ix (r_6 + 0)) x2) (fun M_8 => some (r_4, M_8)))))))
noncomputable def f_X12_setDue  (x1 : Int) (x2 : Int) (M : Mem) : Option (Int × Mem) :=
  cl1 (f_X12_isOrder x1 M) (fun r_1 => (if w32 r_1 = 0 then j_X12_setDue_41 x1 x2 1 M else cl1 (f_X12_in x2 0 9999 M) (fun r_10 => (if w32 r_10 = 0 then j_X12_setDue_41 x1 x2 2 M else cl1 (f_X12_isAlive x1 M) (fun r_12 => (if w32 r_12 = 0 then j_X12_setDue_41 x1 x2 3 M else j_X12_setDue_41 x1 x2 0 M))))))
noncomputable def j_X12_orderWeight_14   (x1 : Int) (y1 : Int) (M : Mem) : Option (Int × Mem) :=
  bnd (upd2 M 139 0 y1) (fun M_3 => (if 0 < w32 (M_3 139 0) then some (0, M_3) else cl1 (f_X12_weightOf x1 M_3) (fun r_4 => some (r_4, M_3))))
noncomputable def f_X12_orderWeight  (x1 : Int) (M : Mem) : Option (Int × Mem) :=
  cl1 (f_X12_isOrder x1 M) (fun r_1 => (if w32 r_1 = 0 then j_X12_orderWeight_14 x1 1 M else j_X12_orderWeight_14 x1 0 M))
noncomputable def j_X12_orderAisles_14   (x1 : Int) (y1 : Int) (M : Mem) : Option (Int × Mem) :=
  bnd (upd2 M 139 0 y1) (fun M_3 => (if 0 < w32 (M_3 139 0) then some (0, M_3) else cl1 (f_X12_aislesOf x1 M_3) (fun r_4 => some (r_4, M_3))))
noncomputable def f_X12_orderAisles  (x1 : Int) (M : Mem) : Option (Int × Mem) :=
  cl1 (f_X12_isOrder x1 M) (fun r_1 => (if w32 r_1 = 0 then j_X12_orderAisles_14 x1 1 M else j_X12_orderAisles_14 x1 0 M))
noncomputable def j_X12_cancel_53   (x1 : Int) (M : Mem) : Option (Int × Mem) :=
  cl1 (f_X12_orderAt x1 M) (fun r_8 => gi (r_8 + 1) 469 (bnd (upd2 M 140 (ix (r_8 + 1)) 3) (fun M_10 => some ((M_10 140 5), M_10))))
noncomputable def j_X12_cancel_26   (x1 : Int) (y1 : Int) (M : Mem) : Option (Int × Mem) :=
  bnd (upd2 M 139 0 y1) (fun M_3 => (if 0 < w32 (M_3 139 0) then some (0, M_3) else cl1 (f_X12_ofOrder x1 1 M_3) (fun r_4 => (if w32 r_4 = 1 then cl1 (f_X12_leaves x1 M_3) (fun M_7 => j_X12_cancel_53 x1 M_7) else j_X12_cancel_53 x1 M_3))))
noncomputable def f_X12_cancel  (x1 : Int) (M : Mem) : Option (Int × Mem) :=
  cl1 (f_X12_isOrder x1 M) (fun r_1 => (if w32 r_1 = 0 then j_X12_cancel_26 x1 1 M else cl1 (f_X12_isAlive x1 M) (fun r_12 => (if w32 r_12 = 0 then j_X12_cancel_26 x1 2 M else j_X12_cancel_26 x1 0 M))))
noncomputable def j_X12_candidates_39_4   (x1 : Int) (x3 : Int) (y0 : Int) (y1 : Int) (M : Mem) : Option ((Int × Int) ⊕ ((Int) ⊕ (Int))) :=
  bnd (i_or y0 y1) (fun x2_3 => bnd (x3 + 1) (fun x3_4 => some (.inl (x2_3, x3_4))))
noncomputable def j_X12_candidates_38_4   (x1 : Int) (x3 : Int) (y0 : Int) (M : Mem) : Option ((Int × Int) ⊕ ((Int) ⊕ (Int))) :=
  j_X12_candidates_39_4 x1 x3 y0 0 M
noncomputable def s_X12_candidates_4  (x1 : Int) (M : Mem) (x2 : Int) (x3 : Int) : Option ((Int × Int) ⊕ ((Int) ⊕ (Int))) :=
  (if w32 x3 < w32 (M 140 4) then cl1 (f_X12_canBatch x3 M) (fun r_1 => (if w32 r_1 = 0 then j_X12_candidates_38_4 x1 x3 x2 M else cl1 (f_X12_weightOf x3 M) (fun r_5 => (if w32 x1 < w32 r_5 then j_X12_candidates_38_4 x1 x3 x2 M else j_X12_candidates_39_4 x1 x3 x2 (i_shl 1 x3) M)))) else some (.inr (.inl x2)))
noncomputable def f_X12_candidates  (x1 : Int) (M : Mem) : Option (Int) :=
  lpb (wh (fun x => s_X12_candidates_4 x1 M x.1 x.2) (0, 0)) (fun z_7 => some z_7) (fun q => some q)
noncomputable def f_X12_seedBy  (x1 : Int) (x2 : Int) (M : Mem) : Option (Int) :=
  (if w32 x2 = 0 then cl1 (f_X12_ofOrder x1 0 M) (fun r_1 => some (-r_1)) else (if w32 x2 = 1 then cl1 (f_X12_weightOf x1 M) (fun r_3 => some r_3) else cl1 (f_X12_aislesOf x1 M) (fun r_5 => cl1 (f_X12_ones r_5 M) (fun r_7 => some r_7))))
noncomputable def j_X12_weightOfAll_28_4   (x1 : Int) (x3 : Int) (y0 : Int) (y1 : Int) (M : Mem) : Option ((Int × Int) ⊕ ((Int) ⊕ (Int))) :=
  bnd (y0 + y1) (fun x2_3 => bnd (x3 + 1) (fun x3_4 => some (.inl (x2_3, x3_4))))
noncomputable def s_X12_weightOfAll_4  (x1 : Int) (M : Mem) (x2 : Int) (x3 : Int) : Option ((Int × Int) ⊕ ((Int) ⊕ (Int))) :=
  (if w32 x3 < 16 then cl1 (f_X12_has x1 x3 M) (fun r_1 => (if w32 r_1 = 0 then j_X12_weightOfAll_28_4 x1 x3 x2 0 M else cl1 (f_X12_weightOf x3 M) (fun r_5 => j_X12_weightOfAll_28_4 x1 x3 x2 r_5 M))) else some (.inr (.inl x2)))
noncomputable def f_X12_weightOfAll  (x1 : Int) (M : Mem) : Option (Int) :=
  lpb (wh (fun x => s_X12_weightOfAll_4 x1 M x.1 x.2) (0, 0)) (fun z_7 => some z_7) (fun q => some q)
noncomputable def j_X12_aislesOfAll_28_4   (x1 : Int) (x3 : Int) (y0 : Int) (y1 : Int) (M : Mem) : Option ((Int × Int) ⊕ ((Int) ⊕ (Int))) :=
  bnd (i_or y0 y1) (fun x2_3 => bnd (x3 + 1) (fun x3_4 => some (.inl (x2_3, x3_4))))
noncomputable def s_X12_aislesOfAll_4  (x1 : Int) (M : Mem) (x2 : Int) (x3 : Int) : Option ((Int × Int) ⊕ ((Int) ⊕ (Int))) :=
  (if w32 x3 < 16 then cl1 (f_X12_has x1 x3 M) (fun r_1 => (if w32 r_1 = 0 then j_X12_aislesOfAll_28_4 x1 x3 x2 0 M else cl1 (f_X12_aislesOf x3 M) (fun r_5 => j_X12_aislesOfAll_28_4 x1 x3 x2 r_5 M))) else some (.inr (.inl x2)))
noncomputable def f_X12_aislesOfAll  (x1 : Int) (M : Mem) : Option (Int) :=
  lpb (wh (fun x => s_X12_aislesOfAll_4 x1 M x.1 x.2) (0, 0)) (fun z_7 => some z_7) (fun q => some q)
noncomputable def j_X12_canAll_39_4   (x1 : Int) (x3 : Int) (y0 : Int) (M : Mem) : Option ((Int × Int) ⊕ ((Int) ⊕ (Int))) :=
  bnd (x3 + 1) (fun x3_1 => some (.inl (y0, x3_1)))
noncomputable def j_X12_canAll_38_4   (x1 : Int) (x3 : Int) (M : Mem) : Option ((Int × Int) ⊕ ((Int) ⊕ (Int))) :=
  j_X12_canAll_39_4 x1 x3 0 M
noncomputable def j_X12_canAll_34_4   (x1 : Int) (x3 : Int) (M : Mem) : Option ((Int × Int) ⊕ ((Int) ⊕ (Int))) :=
  j_X12_canAll_39_4 x1 x3 1 M
noncomputable def s_X12_canAll_4  (x1 : Int) (M : Mem) (x2 : Int) (x3 : Int) : Option ((Int × Int) ⊕ ((Int) ⊕ (Int))) :=
  (if w32 x3 < w32 (M 140 4) then (if w32 x2 = 0 then j_X12_canAll_38_4 x1 x3 M else cl1 (f_X12_has x1 x3 M) (fun r_2 => (if w32 r_2 = 0 then j_X12_canAll_34_4 x1 x3 M else cl1 (f_X12_canBatch x3 M) (fun r_4 => (if w32 r_4 = 0 then j_X12_canAll_38_4 x1 x3 M else j_X12_canAll_34_4 x1 x3 M))))) else some (.inr (.inl x2)))
noncomputable def f_X12_canAll  (x1 : Int) (M : Mem) : Option (Int) :=
  lpb (wh (fun x => s_X12_canAll_4 x1 M x.1 x.2) (1, 0)) (fun z_6 => gz z_6 (some z_6)) (fun q => some q)
noncomputable def f_X12_routeOf  (x1 : Int) (x2 : Int) (M : Mem) : Option (Int × Mem) :=
  cl1 (f_X12_laysAisles x1 M) (fun M_2 => (if w32 (M_2 139 8) = 0 then some (0, M_2) else gi ((M_2 139 8) - 1) 6 (cl1 (f_X12_firstOf x1 M_2) (fun r_4 => bnd ((2 * (M_2 140 2)) * ((M_2 146 (ix ((M_2 139 8) - 1))) - r_4)) (fun x3_6 => (if w32 x2 = 0 then cl1 (f_X12_returnOf M_2) (fun r_7 => some ((x3_6 + r_7), M_2)) else (if w32 x2 = 1 then cl1 (f_X12_shapeOf M_2) (fun r_9 => some ((x3_6 + r_9), M_2)) else (if w32 x2 = 2 then cl2 (f_X12_gapOf M_2) (fun r_11 M_12 => some ((x3_6 + r_11), M_12)) else cl1 (f_X12_bestChoice M_2) (fun r_13 => cl1 (f_X12_combinedBy r_13 M_2) (fun r_15 => some ((x3_6 + r_15), M_2)))))))))))
noncomputable def f_X12_goes  (x1 : Int) (x2 : Int) (M : Mem) : Option (Mem) :=
  (if w32 x2 = 0 then cl1 (f_X12_goesDown x1 (M 140 1) 1 M) (fun M_2 => some M_2) else cl1 (f_X12_goesUp x1 1 (M 140 1) M) (fun M_4 => some M_4))
noncomputable def s_X12_sortsBy_22  (x1 : Int) (x2 : Int) (x3 : Int) (M : Mem) (x4 : Int) (x5 : Int) : Option ((Int × Int) ⊕ ((Int) ⊕ (Mem))) :=
  cl1 (f_X12_zones M) (fun r_2 => (if w32 x5 < w32 r_2 then gi (x3 + x5) 24 (bnd (x4 + (M 148 (ix (x3 + x5)))) (fun x4_5 => bnd (x5 + 1) (fun x5_6 => some (.inl (x4_5, x5_6))))) else some (.inr (.inl x4))))
noncomputable def j_X12_sortsBy_79_2   (x1 : Int) (x2 : Int) (y1 : Int) (y2 : Int) (M : Mem) : Option ((Int × Mem) ⊕ ((Mem) ⊕ (Mem))) :=
  gi y1 8 (bnd (upd2 M 152 (ix y1) y2) (fun M_11 => bnd (x2 + 1) (fun x2_13 => some (.inl (x2_13, M_11)))))
noncomputable def s_X12_sortsBy_2  (x1 : Int) (x2 : Int) (M : Mem) : Option ((Int × Mem) ⊕ ((Mem) ⊕ (Mem))) :=
  (if w32 x2 < w32 (M 140 5) then bnd (3 * x2) (fun x3_1 => lpb (wh (fun x => s_X12_sortsBy_22 x1 x2 x3_1 M x.1 x.2) (0, 0)) (fun z_7 => (if w32 x1 = 0 then gi (461 + x2) 469 (cl1 (f_X12_earliestOf (M 140 (ix (461 + x2))) M) (fun r_9 => j_X12_sortsBy_79_2 x1 x2 x2 r_9 M)) else j_X12_sortsBy_79_2 x1 x2 x2 z_7 M)) (fun q => some (.inr (.inr q)))) else some (.inr (.inl M)))
noncomputable def s_X12_sortsBy_108  (x2 : Int) (x3 : Int) (x4 : Int) (M : Mem) : Option ((Int × Mem) ⊕ ((Int × Mem) ⊕ (Mem))) :=
  (if 0 < w32 x4 then gi (x4 - 1) 8 (gi (M 149 (ix (x4 - 1))) 8 (gi x3 8 ((if w32 (M 152 (ix x3)) < w32 (M 152 (ix (M 149 (ix (x4 - 1))))) then gi (x4 - 1) 8 (gi x4 8 (bnd (upd2 M 149 (ix x4) (M 149 (ix (x4 - 1)))) (fun M_21 => bnd (x4 + (-1)) (fun x4_23 => some (.inl (x4_23, M_21)))))) else some (.inr (.inl (x4, M))))))) else some (.inr (.inl (x4, M))))
noncomputable def j_X12_sortsBy_158_88   (x2 : Int) (x3 : Int) (x4 : Int) (M : Mem) : Option ((Int × Mem) ⊕ ((Mem) ⊕ (Mem))) :=
  gi x4 8 (bnd (upd2 M 149 (ix x4) x3) (fun M_25 => bnd (x2 + 1) (fun x2_27 => some (.inl (x2_27, M_25)))))
noncomputable def s_X12_sortsBy_88  (x2 : Int) (M : Mem) : Option ((Int × Mem) ⊕ ((Mem) ⊕ (Mem))) :=
  (if w32 x2 < w32 (M 140 5) then gi x2 8 (bnd (M 149 (ix x2)) (fun x3_16 => lpb (wh (fun x => s_X12_sortsBy_108 x2 x3_16 x.1 x.2) (x2, M)) (fun z_24 => j_X12_sortsBy_158_88 x2 x3_16 z_24.1 z_24.2) (fun q => some (.inr (.inr q))))) else some (.inr (.inl M)))
noncomputable def f_X12_sortsBy  (x1 : Int) (M : Mem) : Option (Mem) :=
  lpb (wh (fun x => s_X12_sortsBy_2 x1 x.1 x.2) (0, M)) (fun z_14 => lpb (wh (fun x => s_X12_sortsBy_88 x.1 x.2) (1, z_14)) (fun z_28 => some z_28) (fun q => some q)) (fun q => some q)
noncomputable def j_X12_seeksSequence_40_13   (x1 : Int) (M : Mem) : Option ((Int × Mem) ⊕ ((Mem) ⊕ (Mem))) :=
  some (.inl (x1, M))
noncomputable def s_X12_seeksSequence_13  (x1 : Int) (M : Mem) : Option ((Int × Mem) ⊕ ((Mem) ⊕ (Mem))) :=
  cl2 (f_X12_goesOn M) (fun r_7 M_8 => (if w32 r_7 = 0 then some (.inr (.inl M_8)) else cl1 (f_X12_laysTimes M_8) (fun M_10 => cl1 (f_X12_tardiness M_10) (fun r_11 => (if w32 r_11 < w32 x1 then cl1 (f_X12_keepsBest M_10) (fun M_14 => j_X12_seeksSequence_40_13 r_11 M_14) else j_X12_seeksSequence_40_13 x1 M_10)))))
noncomputable def s_X12_seeksSequence_45  (x2 : Int) (M : Mem) : Option ((Int × Mem) ⊕ ((Mem) ⊕ (Mem))) :=
  (if w32 x2 < w32 (M 140 5) then gi x2 8 (gi x2 8 (bnd (upd2 M 149 (ix x2) (M 153 (ix x2))) (fun M_17 => bnd (x2 + 1) (fun x2_19 => some (.inl (x2_19, M_17)))))) else some (.inr (.inl M)))
noncomputable def f_X12_seeksSequence  (M : Mem) : Option (Mem) :=
  cl1 (f_X12_laysTimes M) (fun M_2 => cl1 (f_X12_tardiness M_2) (fun r_3 => cl1 (f_X12_keepsBest M_2) (fun M_6 => lpb (wh (fun x => s_X12_seeksSequence_13 x.1 x.2) (r_3, M_6)) (fun z_15 => lpb (wh (fun x => s_X12_seeksSequence_45 x.1 x.2) (0, z_15)) (fun z_20 => some z_20) (fun q => some q)) (fun q => some q))))
noncomputable def f_X12_pickedUnits  (x1 : Int) (x2 : Int) (M : Mem) : Option (Int × Mem) :=
  cl2 (f_X12_ofLine x1 x2 0 M) (fun r_1 M_2 => some (r_1, M_2))
noncomputable def f_X12_shortUnits  (x1 : Int) (x2 : Int) (M : Mem) : Option (Int × Mem) :=
  cl2 (f_X12_ofLine x1 x2 1 M) (fun r_1 M_2 => some (r_1, M_2))
noncomputable def f_X12_totalOrdered  (M : Mem) : Option (Int × Mem) :=
  cl2 (f_X12_sumOf 1 M) (fun r_1 M_2 => some (r_1, M_2))
noncomputable def f_X12_totalPicked  (M : Mem) : Option (Int × Mem) :=
  cl2 (f_X12_sumOf 2 M) (fun r_1 M_2 => some (r_1, M_2))
noncomputable def j_X12_reorder_185_117   (x1 : Int) (x4 : Int) (x5 : Int) (y0 : Int) (M : Mem) : Option ((Int × Mem) ⊕ ((Mem) ⊕ (Int × Mem))) :=
  bnd (x5 + 1) (fun x5_25 => some (.inl (x5_25, M)))
noncomputable def s_X12_reorder_117  (x1 : Int) (x4 : Int) (x5 : Int) (M : Mem) : Option ((Int × Mem) ⊕ ((Mem) ⊕ (Int × Mem))) :=
  cl1 (f_X12_ofOrder x1 2 M) (fun r_11 => (if w32 x5 < w32 r_11 then cl1 (f_X12_lineAt x1 x5 M) (fun r_13 => gi (r_13 + 1) 469 (cl1 (f_X12_lineAt x1 x5 M) (fun r_16 => gi (r_16 + 2) 469 (bnd ((M 140 (ix (r_13 + 1))) - (M 140 (ix (r_16 + 2)))) (fun x6_19 => (if 0 < w32 x6_19 then cl1 (f_X12_lineAt x1 x5 M) (fun r_20 => gi r_20 469 (cl2 (f_X12_addsLine x4 (M 140 (ix r_20)) x6_19 M) (fun r_23 M_24 => j_X12_reorder_185_117 x1 x4 x5 r_23 M_24))) else j_X12_reorder_185_117 x1 x4 x5 (-1) M)))))) else some (.inr (.inl M))))
noncomputable def j_X12_reorder_95   (x1 : Int) (x2 : Int) (y1 : Int) (M : Mem) : Option (Int × Mem) :=
  bnd (upd2 M 139 0 y1) (fun M_8 => (if 0 < w32 (M_8 139 0) then some (0, M_8) else cl2 (f_X12_opensOrder x2 M_8) (fun r_9 M_10 => lpb (wh (fun x => s_X12_reorder_117 x1 r_9 x.1 x.2) (0, M_10)) (fun z_26 => cl1 (f_X12_orderAt x1 z_26) (fun r_27 => gi (r_27 + 3) 469 (bnd (upd2 z_26 140 (ix (r_27 + 3)) 1) (fun M_29 => some (r_9, M_29))))) (fun q => some q))))
noncomputable def j_X12_reorder_94   (x1 : Int) (x2 : Int) (M : Mem) : Option (Int × Mem) :=
  j_X12_reorder_95 x1 x2 3 M
noncomputable def j_X12_reorder_76   (x1 : Int) (x2 : Int) (y0 : Int) (M : Mem) : Option (Int × Mem) :=
  (if w32 y0 = 0 then j_X12_reorder_94 x1 x2 M else cl1 (f_X12_shortOf x1 M) (fun r_31 => (if 0 < w32 r_31 then j_X12_reorder_95 x1 x2 0 M else j_X12_reorder_94 x1 x2 M)))
noncomputable def j_X12_reorder_75   (x1 : Int) (x2 : Int) (M : Mem) : Option (Int × Mem) :=
  j_X12_reorder_76 x1 x2 0 M
noncomputable def j_X12_reorder_29   (x1 : Int) (x2 : Int) (y1 : Int) (M : Mem) : Option (Int × Mem) :=
  bnd (upd2 M 139 0 y1) (fun M_3 => (if 0 < w32 (M_3 139 0) then some (0, M_3) else cl1 (f_X12_ofOrder x1 1 M_3) (fun r_4 => (if w32 r_4 = 2 then cl1 (f_X12_ofOrder x1 3 M_3) (fun r_6 => (if w32 r_6 = 0 then (if w32 (M_3 140 4) < 16 then j_X12_reorder_76 x1 x2 1 M_3 else j_X12_reorder_75 x1 x2 M_3) else j_X12_reorder_75 x1 x2 M_3)) else j_X12_reorder_75 x1 x2 M_3))))
noncomputable def f_X12_reorder  (x1 : Int) (x2 : Int) (M : Mem) : Option (Int × Mem) :=
  cl1 (f_X12_isOrder x1 M) (fun r_1 => (if w32 r_1 = 0 then j_X12_reorder_29 x1 x2 1 M else cl1 (f_X12_in x2 0 9999 M) (fun r_33 => (if w32 r_33 = 0 then j_X12_reorder_29 x1 x2 2 M else j_X12_reorder_29 x1 x2 0 M))))
noncomputable def j_X12_read_33   (x1 : Int) (M : Mem) : Option (Int × Mem) :=
  cl1 (f_X12_isWell M) (fun r_5 => (if w32 r_5 = 0 then some (x1, M) else bnd (M 139 27) (fun x3_7 => cl1 (f_X12_next M) (fun M_9 => some (x3_7, M_9)))))
noncomputable def f_X12_read  (x1 : Int) (x2 : Int) (M : Mem) : Option (Int × Mem) :=
  (if w32 (M 139 26) = 2 then cl1 (f_X12_in (M 139 27) x1 x2 M) (fun r_1 => (if w32 r_1 = 0 then cl1 (f_X12_fails 2 M) (fun M_4 => j_X12_read_33 x1 M_4) else j_X12_read_33 x1 M)) else cl1 (f_X12_fails 1 M) (fun M_11 => j_X12_read_33 x1 M_11))
noncomputable def j_X12_ends_13   (M : Mem) : Option (Mem) :=
  cl1 (f_X12_isWell M) (fun r_1 => (if w32 r_1 = 0 then some M else cl1 (f_X12_next M) (fun M_4 => some M_4)))
noncomputable def f_X12_ends  (M : Mem) : Option (Mem) :=
  (if w32 (M 139 26) = 3 then j_X12_ends_13 M else cl1 (f_X12_fails 1 M) (fun M_6 => j_X12_ends_13 M_6))
noncomputable def f_X12_readPolicy  (M : Mem) : Option (Mem) :=
  cl1 (f_X12_next M) (fun M_2 => cl1 (f_X12_wordHere M_2) (fun r_3 => bnd (r_3 - 8) (fun x1_5 => (if w32 x1_5 < 0 then cl1 (f_X12_fails 1 M_2) (fun M_7 => some M_7) else bnd (upd2 M_2 140 6 x1_5) (fun M_8 => cl1 (f_X12_next M_8) (fun M_10 => some M_10))))))
noncomputable def j_X12_seedOf_45_5   (x1 : Int) (x2 : Int) (x3 : Int) (x4 : Int) (M : Mem) : Option ((Int × Int) ⊕ ((Int) ⊕ (Int))) :=
  bnd (x4 + 1) (fun x4_3 => some (.inl (x3, x4_3)))
noncomputable def j_X12_seedOf_42_5   (x1 : Int) (x2 : Int) (x4 : Int) (M : Mem) : Option ((Int × Int) ⊕ ((Int) ⊕ (Int))) :=
  j_X12_seedOf_45_5 x1 x2 x4 x4 M
noncomputable def s_X12_seedOf_5  (x1 : Int) (x2 : Int) (M : Mem) (x3 : Int) (x4 : Int) : Option ((Int × Int) ⊕ ((Int) ⊕ (Int))) :=
  (if w32 x4 < 16 then cl1 (f_X12_has x1 x4 M) (fun r_1 => (if w32 r_1 = 0 then j_X12_seedOf_45_5 x1 x2 x3 x4 M else (if w32 x3 = (-1) then j_X12_seedOf_42_5 x1 x2 x4 M else cl1 (f_X12_seedBy x4 x2 M) (fun r_4 => cl1 (f_X12_seedBy x3 x2 M) (fun r_6 => (if w32 r_6 < w32 r_4 then j_X12_seedOf_42_5 x1 x2 x4 M else j_X12_seedOf_45_5 x1 x2 x3 x4 M)))))) else some (.inr (.inl x3)))
noncomputable def f_X12_seedOf  (x1 : Int) (x2 : Int) (M : Mem) : Option (Int) :=
  lpb (wh (fun x => s_X12_seedOf_5 x1 x2 M x.1 x.2) ((-1), 0)) (fun z_8 => some z_8) (fun q => some q)
noncomputable def j_X12_nextOf_116_25   (x1 : Int) (x4 : Int) (x5 : Int) (x6 : Int) (x7 : Int) (x8 : Int) (M : Mem) : Option ((Int × Int × Int) ⊕ ((Int) ⊕ (Int))) :=
  bnd (x8 + 1) (fun x8_8 => some (.inl (x4, x5, x8_8)))
noncomputable def j_X12_nextOf_108_25   (x1 : Int) (x6 : Int) (x7 : Int) (x8 : Int) (x9 : Int) (M : Mem) : Option ((Int × Int × Int) ⊕ ((Int) ⊕ (Int))) :=
  j_X12_nextOf_116_25 x1 x8 x9 x6 x7 x8 M
noncomputable def s_X12_nextOf_25  (x1 : Int) (x6 : Int) (x7 : Int) (M : Mem) (x4 : Int) (x5 : Int) (x8 : Int) : Option ((Int × Int × Int) ⊕ ((Int) ⊕ (Int))) :=
  (if w32 x8 < 16 then cl1 (f_X12_has x1 x8 M) (fun r_6 => (if w32 r_6 = 0 then j_X12_nextOf_116_25 x1 x4 x5 x6 x7 x8 M else cl1 (f_X12_weightOf x8 M) (fun r_9 => (if w32 x6 < w32 r_9 then j_X12_nextOf_116_25 x1 x4 x5 x6 x7 x8 M else cl1 (f_X12_aislesOf x8 M) (fun r_11 => cl1 (f_X12_ones (i_and r_11 (i_xor x7 (-1))) M) (fun r_13 => (if w32 x4 = (-1) then j_X12_nextOf_108_25 x1 x6 x7 x8 r_13 M else (if w32 r_13 < w32 x5 then j_X12_nextOf_108_25 x1 x6 x7 x8 r_13 M else (if w32 r_13 = w32 x5 then cl1 (f_X12_ofOrder x8 0 M) (fun r_15 => cl1 (f_X12_ofOrder x4 0 M) (fun r_17 => (if w32 r_15 < w32 r_17 then j_X12_nextOf_108_25 x1 x6 x7 x8 r_13 M else j_X12_nextOf_116_25 x1 x4 x5 x6 x7 x8 M))) else j_X12_nextOf_116_25 x1 x4 x5 x6 x7 x8 M))))))))) else some (.inr (.inl x4)))
noncomputable def f_X12_nextOf  (x1 : Int) (x2 : Int) (x3 : Int) (M : Mem) : Option (Int) :=
  cl1 (f_X12_weightOfAll x2 M) (fun r_1 => bnd (x3 - r_1) (fun x6_3 => cl1 (f_X12_aislesOfAll x2 M) (fun r_4 => lpb (wh (fun x => s_X12_nextOf_25 x1 x6_3 r_4 M x.1 x.2.1 x.2.2) ((-1), 0, 0)) (fun z_19 => some z_19) (fun q => some q))))
noncomputable def j_X12_addBatch_47   (x1 : Int) (y1 : Int) (M : Mem) : Option (Int × Mem) :=
  bnd (upd2 M 139 0 y1) (fun M_3 => (if 0 < w32 (M_3 139 0) then some (0, M_3) else cl2 (f_X12_addsBatch x1 M_3) (fun r_4 M_5 => some (r_4, M_5))))
noncomputable def j_X12_addBatch_42   (x1 : Int) (M : Mem) : Option (Int × Mem) :=
  j_X12_addBatch_47 x1 2 M
noncomputable def f_X12_addBatch  (x1 : Int) (M : Mem) : Option (Int × Mem) :=
  cl1 (f_X12_in x1 1 ((i_shl 1 (M 140 4)) - 1) M) (fun r_1 => (if w32 r_1 = 0 then j_X12_addBatch_47 x1 1 M else cl1 (f_X12_canAll x1 M) (fun r_6 => (if w32 r_6 = 0 then j_X12_addBatch_42 x1 M else (if w32 (M 140 5) = 8 then j_X12_addBatch_42 x1 M else j_X12_addBatch_47 x1 0 M)))))
noncomputable def j_X12_batchWeight_14   (x1 : Int) (y1 : Int) (M : Mem) : Option (Int × Mem) :=
  bnd (upd2 M 139 0 y1) (fun M_3 => (if 0 < w32 (M_3 139 0) then some (0, M_3) else gi (461 + x1) 469 (cl1 (f_X12_weightOfAll (M_3 140 (ix (461 + x1))) M_3) (fun r_5 => some (r_5, M_3)))))
noncomputable def f_X12_batchWeight  (x1 : Int) (M : Mem) : Option (Int × Mem) :=
  cl1 (f_X12_isBatch x1 M) (fun r_1 => (if w32 r_1 = 0 then j_X12_batchWeight_14 x1 1 M else j_X12_batchWeight_14 x1 0 M))
noncomputable def s_X12_routes_10  (x2 : Int) (x3 : Int) (x4 : Int) (M : Mem) : Option ((Int × Int × Mem) ⊕ ((Int × Mem) ⊕ (Int × Mem))) :=
  cl1 (f_X12_zones M) (fun r_3 => (if w32 x4 < w32 r_3 then cl2 (f_X12_routeOf x4 x2 M) (fun r_5 M_6 => bnd (x3 + r_5) (fun x3_7 => bnd (x4 + 1) (fun x4_8 => some (.inl (x3_7, x4_8, M_6))))) else some (.inr (.inl (x3, M)))))
noncomputable def f_X12_routes  (x1 : Int) (x2 : Int) (M : Mem) : Option (Int × Mem) :=
  cl1 (f_X12_laysSpots x1 M) (fun M_2 => lpb (wh (fun x => s_X12_routes_10 x2 x.1 x.2.1 x.2.2) (0, 0, M_2)) (fun z_9 => some (z_9.1, z_9.2)) (fun q => some q))
noncomputable def f_X12_takes  (x1 : Int) (x2 : Int) (x3 : Int) (x4 : Int) (M : Mem) : Option (Int) :=
  gi (461 + x1) 469 (bnd (M 140 (ix (461 + x1))) (fun x5_2 => cl1 (f_X12_ones x5_2 M) (fun r_3 => (if w32 r_3 < w32 x3 then cl1 (f_X12_weightOfAll x5_2 M) (fun r_5 => cl1 (f_X12_weightOf x2 M) (fun r_7 => (if w32 x4 < w32 (r_5 + r_7) then some 0 else some 1))) else some 0))))
noncomputable def j_X12_routeLength_28   (x1 : Int) (x2 : Int) (x3 : Int) (y1 : Int) (M : Mem) : Option (Int × Mem) :=
  bnd (upd2 M 139 0 y1) (fun M_3 => (if 0 < w32 (M_3 139 0) then some (0, M_3) else gi (461 + x1) 469 (cl1 (f_X12_laysSpots (M_3 140 (ix (461 + x1))) M_3) (fun M_6 => cl2 (f_X12_routeOf x2 x3 M_6) (fun r_7 M_8 => some (r_7, M_8))))))
noncomputable def f_X12_routeLength  (x1 : Int) (x2 : Int) (x3 : Int) (M : Mem) : Option (Int × Mem) :=
  cl1 (f_X12_isPart x1 x2 M) (fun r_1 => (if w32 r_1 = 0 then j_X12_routeLength_28 x1 x2 x3 1 M else cl1 (f_X12_in x3 0 3 M) (fun r_9 => (if w32 r_9 = 0 then j_X12_routeLength_28 x1 x2 x3 2 M else j_X12_routeLength_28 x1 x2 x3 0 M))))
noncomputable def s_X12_stopsByGaps_20  (x1 : Int) (x2 : Int) (M : Mem) : Option ((Int × Mem) ⊕ ((Mem) ⊕ (Mem))) :=
  (if w32 x2 < w32 x1 then gi x2 6 (cl1 (f_X12_seeksGap (M 146 (ix x2)) M) (fun M_6 => gi x2 6 (cl1 (f_X12_goesDown (M_6 146 (ix x2)) (M_6 140 1) ((M_6 139 9) + 1) M_6) (fun M_9 => bnd (x2 + 1) (fun x2_10 => some (.inl (x2_10, M_9))))))) else some (.inr (.inl M)))
noncomputable def s_X12_stopsByGaps_78  (x2 : Int) (M : Mem) : Option ((Int × Mem) ⊕ ((Mem) ⊕ (Mem))) :=
  (if 0 < w32 x2 then gi x2 6 (cl1 (f_X12_seeksGap (M 146 (ix x2)) M) (fun M_18 => gi x2 6 (cl1 (f_X12_goesUp (M_18 146 (ix x2)) 1 (M_18 139 9) M_18) (fun M_21 => bnd (x2 + (-1)) (fun x2_22 => some (.inl (x2_22, M_21))))))) else some (.inr (.inl M)))
noncomputable def f_X12_stopsByGaps  (M : Mem) : Option (Mem) :=
  bnd ((M 139 8) - 1) (fun x1_1 => cl1 (f_X12_goes (M 146 0) 1 M) (fun M_3 => lpb (wh (fun x => s_X12_stopsByGaps_20 x1_1 x.1 x.2) (1, M_3)) (fun z_11 => gi x1_1 6 (cl1 (f_X12_goes (z_11 146 (ix x1_1)) 0 z_11) (fun M_14 => bnd (x1_1 - 1) (fun x2_15 => lpb (wh (fun x => s_X12_stopsByGaps_78 x.1 x.2) (x2_15, M_14)) (fun z_23 => some z_23) (fun q => some q))))) (fun q => some q)))
noncomputable def j_X12_stopsCombined_57_9   (x1 : Int) (x3 : Int) (y0 : Int) (M : Mem) : Option ((Int × Int × Mem) ⊕ ((Mem) ⊕ (Mem))) :=
  bnd (x3 + 1) (fun x3_8 => some (.inl (y0, x3_8, M)))
noncomputable def j_X12_stopsCombined_33_9   (x1 : Int) (x2 : Int) (x3 : Int) (y1 : Int) (y2 : Int) (M : Mem) : Option ((Int × Int × Mem) ⊕ ((Mem) ⊕ (Mem))) :=
  cl1 (f_X12_goes y1 y2 M) (fun M_5 => cl1 (f_X12_has x1 (((M_5 139 8) - 1) - x3) M_5) (fun r_6 => (if w32 x2 = w32 r_6 then j_X12_stopsCombined_57_9 x1 x3 0 M_5 else j_X12_stopsCombined_57_9 x1 x3 1 M_5)))
noncomputable def s_X12_stopsCombined_9  (x1 : Int) (x2 : Int) (x3 : Int) (M : Mem) : Option ((Int × Int × Mem) ⊕ ((Mem) ⊕ (Mem))) :=
  (if w32 x3 < w32 (M 139 8) then gi x3 6 ((if w32 x2 = 0 then j_X12_stopsCombined_33_9 x1 x2 x3 (M 146 (ix x3)) 1 M else j_X12_stopsCombined_33_9 x1 x2 x3 (M 146 (ix x3)) 0 M)) else some (.inr (.inl M)))
noncomputable def f_X12_stopsCombined  (M : Mem) : Option (Mem) :=
  cl1 (f_X12_bestChoice M) (fun r_1 => lpb (wh (fun x => s_X12_stopsCombined_9 r_1 x.1 x.2.1 x.2.2) (0, 0, M)) (fun z_9 => some z_9) (fun q => some q))
noncomputable def j_X12_readHall_55   (M : Mem) : Option (Mem) :=
  cl1 (f_X12_ends M) (fun M_14 => some M_14)
noncomputable def f_X12_readHall  (M : Mem) : Option (Mem) :=
  cl1 (f_X12_wordHere M) (fun r_1 => (if w32 r_1 = 0 then cl1 (f_X12_next M) (fun M_4 => cl2 (f_X12_read 1 6 M_4) (fun r_5 M_6 => cl2 (f_X12_read 2 20 M_6) (fun r_7 M_8 => cl2 (f_X12_read 1 9 M_8) (fun r_9 M_10 => cl1 (f_X12_isWell M_10) (fun r_11 => (if w32 r_11 = 0 then j_X12_readHall_55 M_10 else cl1 (f_X12_laysHall r_5 r_7 r_9 M_10) (fun M_16 => j_X12_readHall_55 M_16))))))) else cl1 (f_X12_fails 1 M) (fun M_18 => some M_18)))
noncomputable def f_X12_readItem  (M : Mem) : Option (Mem) :=
  (if w32 (M 140 3) = 24 then cl1 (f_X12_fails 3 M) (fun M_2 => some M_2) else cl1 (f_X12_next M) (fun M_4 => cl2 (f_X12_read 0 ((M_4 140 0) - 1) M_4) (fun r_5 M_6 => cl2 (f_X12_read 1 (M_6 140 1) M_6) (fun r_7 M_8 => cl2 (f_X12_read 1 50 M_8) (fun r_9 M_10 => cl2 (f_X12_read 0 999 M_10) (fun r_11 M_12 => cl1 (f_X12_isWell M_12) (fun r_13 => (if w32 r_13 = 0 then some M_12 else cl2 (f_X12_adds r_5 r_7 r_9 r_11 M_12) (fun r_15 M_16 => some M_16)))))))))
noncomputable def j_X12_readLine_46   (x1 : Int) (M : Mem) : Option (Mem) :=
  cl2 (f_X12_read 0 ((M 140 3) - 1) M) (fun r_9 M_10 => cl2 (f_X12_read 1 99 M_10) (fun r_11 M_12 => cl1 (f_X12_isWell M_12) (fun r_13 => (if w32 r_13 = 0 then some M_12 else cl2 (f_X12_addsLine x1 r_9 r_11 M_12) (fun r_15 M_16 => some M_16)))))
noncomputable def f_X12_readLine  (x1 : Int) (M : Mem) : Option (Mem) :=
  cl1 (f_X12_ofOrder x1 2 M) (fun r_1 => (if w32 r_1 = 6 then cl1 (f_X12_fails 3 M) (fun M_4 => some M_4) else cl1 (f_X12_next M) (fun M_6 => (if w32 (M_6 139 26) = 2 then cl1 (f_X12_hasLine x1 (M_6 139 27) M_6) (fun r_7 => (if w32 r_7 = 0 then j_X12_readLine_46 x1 M_6 else cl1 (f_X12_fails 2 M_6) (fun M_18 => j_X12_readLine_46 x1 M_18))) else j_X12_readLine_46 x1 M_6))))
noncomputable def j_X12_readZones_52   (x1 : Int) (y0 : Int) (M : Mem) : Option (Mem) :=
  cl1 (f_X12_isWell M) (fun r_7 => (if w32 r_7 = 0 then some M else bnd (upd2 M 140 7 x1) (fun M_9 => bnd (upd2 M_9 140 8 y0) (fun M_10 => some M_10))))
noncomputable def j_X12_readZones_51   (x1 : Int) (M : Mem) : Option (Mem) :=
  j_X12_readZones_52 x1 (-1) M
noncomputable def f_X12_readZones  (M : Mem) : Option (Mem) :=
  cl1 (f_X12_next M) (fun M_2 => cl2 (f_X12_read 1 ((M_2 140 0) - 1) M_2) (fun r_3 M_4 => cl1 (f_X12_isWell M_4) (fun r_5 => (if w32 r_5 = 0 then j_X12_readZones_51 r_3 M_4 else (if w32 (M_4 139 26) = 2 then cl2 (f_X12_read (r_3 + 1) ((M_4 140 0) - 1) M_4) (fun r_11 M_12 => j_X12_readZones_52 r_3 r_11 M_12) else j_X12_readZones_51 r_3 M_4)))))
noncomputable def f_X12_readBuffer  (M : Mem) : Option (Mem) :=
  cl1 (f_X12_next M) (fun M_2 => cl2 (f_X12_read 0 1 M_2) (fun r_3 M_4 => cl2 (f_X12_read 0 4 M_4) (fun r_5 M_6 => cl1 (f_X12_isWell M_6) (fun r_7 => (if w32 r_7 = 0 then some M_6 else gi (9 + r_3) 469 (bnd (upd2 M_6 140 (ix (9 + r_3)) r_5) (fun M_9 => some M_9)))))))
noncomputable def f_X12_readTimes  (M : Mem) : Option (Mem) :=
  cl1 (f_X12_next M) (fun M_2 => cl2 (f_X12_read 0 99 M_2) (fun r_3 M_4 => bnd (upd2 M_4 140 11 r_3) (fun M_5 => cl2 (f_X12_read 0 99 M_5) (fun r_6 M_7 => bnd (upd2 M_7 140 12 r_6) (fun M_8 => some M_8)))))
noncomputable def j_X12_makeBatches_133_85   (x1 : Int) (x2 : Int) (x3 : Int) (x4 : Int) (x5 : Int) (x7 : Int) (y0 : Int) (M : Mem) : Option ((Int × Int × Int) ⊕ ((Int × Int) ⊕ (Int × Mem))) :=
  some (.inl (x4, y0, x7))
noncomputable def s_X12_makeBatches_85  (x1 : Int) (x2 : Int) (x3 : Int) (x5 : Int) (M : Mem) (x4 : Int) (x6 : Int) (x7 : Int) : Option ((Int × Int × Int) ⊕ ((Int × Int) ⊕ (Int × Mem))) :=
  (if w32 x6 = (-1) then some (.inr (.inl (x4, x7))) else bnd (i_or x7 (i_shl 1 x6)) (fun x7_8 => bnd (i_and x4 (i_xor (i_shl 1 x6) (-1))) (fun x4_9 => cl1 (f_X12_ones x7_8 M) (fun r_10 => (if w32 r_10 < w32 x1 then cl1 (f_X12_nextOf x4_9 x7_8 x2 M) (fun r_12 => j_X12_makeBatches_133_85 x1 x2 x3 x4_9 x5 x7_8 r_12 M) else j_X12_makeBatches_133_85 x1 x2 x3 x4_9 x5 x7_8 (-1) M)))))
noncomputable def s_X12_makeBatches_57  (x1 : Int) (x2 : Int) (x3 : Int) (x4 : Int) (x5 : Int) (M : Mem) : Option ((Int × Int × Mem) ⊕ ((Int × Mem) ⊕ (Int × Mem))) :=
  (if w32 x4 = 0 then some (.inr (.inl (x5, M))) else (if w32 (M 140 5) < 8 then cl1 (f_X12_seedOf x4 x3 M) (fun r_6 => lpb (wh (fun x => s_X12_makeBatches_85 x1 x2 x3 x5 M x.1 x.2.1 x.2.2) (x4, r_6, 0)) (fun z_14 => cl2 (f_X12_addsBatch z_14.2 M) (fun r_15 M_16 => bnd (x5 + 1) (fun x5_17 => some (.inl (z_14.1, x5_17, M_16))))) (fun q => some (.inr (.inr q)))) else some (.inr (.inl (x5, M)))))
noncomputable def j_X12_makeBatches_35   (x1 : Int) (x2 : Int) (x3 : Int) (y1 : Int) (M : Mem) : Option (Int × Mem) :=
  bnd (upd2 M 139 0 y1) (fun M_3 => (if 0 < w32 (M_3 139 0) then some (0, M_3) else cl1 (f_X12_candidates x2 M_3) (fun r_4 => lpb (wh (fun x => s_X12_makeBatches_57 x1 x2 x3 x.1 x.2.1 x.2.2) (r_4, 0, M_3)) (fun z_18 => some (z_18.1, z_18.2)) (fun q => some q))))
noncomputable def j_X12_makeBatches_34   (x1 : Int) (x2 : Int) (x3 : Int) (M : Mem) : Option (Int × Mem) :=
  j_X12_makeBatches_35 x1 x2 x3 1 M
noncomputable def f_X12_makeBatches  (x1 : Int) (x2 : Int) (x3 : Int) (M : Mem) : Option (Int × Mem) :=
  cl1 (f_X12_in x1 1 6 M) (fun r_1 => (if w32 r_1 = 0 then j_X12_makeBatches_34 x1 x2 x3 M else cl1 (f_X12_in x2 1 99999 M) (fun r_19 => (if w32 r_19 = 0 then j_X12_makeBatches_34 x1 x2 x3 M else cl1 (f_X12_in x3 0 2 M) (fun r_21 => (if w32 r_21 = 0 then j_X12_makeBatches_34 x1 x2 x3 M else j_X12_makeBatches_35 x1 x2 x3 0 M))))))
noncomputable def s_X12_allRoutes_4  (x1 : Int) (x2 : Int) (M : Mem) : Option ((Int × Int × Mem) ⊕ ((Int × Mem) ⊕ (Int × Mem))) :=
  (if w32 x2 < w32 (M 140 5) then gi (461 + x2) 469 (cl2 (f_X12_routes (M 140 (ix (461 + x2))) (M 140 6) M) (fun r_2 M_3 => bnd (x1 + r_2) (fun x1_4 => bnd (x2 + 1) (fun x2_5 => some (.inl (x1_4, x2_5, M_3)))))) else some (.inr (.inl (x1, M))))
noncomputable def f_X12_allRoutes  (M : Mem) : Option (Int × Mem) :=
  lpb (wh (fun x => s_X12_allRoutes_4 x.1 x.2.1 x.2.2) (0, 0, M)) (fun z_6 => some (z_6.1, z_6.2)) (fun q => some q)
noncomputable def f_X12_gainOf  (x1 : Int) (x2 : Int) (x3 : Int) (M : Mem) : Option (Int × Mem) :=
  gi (461 + x2) 469 (bnd (M 140 (ix (461 + x2))) (fun x4_2 => gi (461 + x3) 469 (bnd (M 140 (ix (461 + x3))) (fun x5_4 => bnd (M 140 6) (fun x6_5 => cl2 (f_X12_routes x4_2 x6_5 M) (fun r_6 M_7 => cl2 (f_X12_routes x5_4 x6_5 M_7) (fun r_8 M_9 => cl2 (f_X12_routes (i_and x4_2 (i_xor (i_shl 1 x1) (-1))) x6_5 M_9) (fun r_10 M_11 => cl2 (f_X12_routes (i_or x5_4 (i_shl 1 x1)) x6_5 M_11) (fun r_12 M_13 => some ((((r_6 + r_8) - r_10) - r_12), M_13))))))))))
noncomputable def j_X12_batchRoute_14   (x1 : Int) (y1 : Int) (M : Mem) : Option (Int × Mem) :=
  bnd (upd2 M 139 0 y1) (fun M_3 => (if 0 < w32 (M_3 139 0) then some (0, M_3) else gi (461 + x1) 469 (cl2 (f_X12_routes (M_3 140 (ix (461 + x1))) (M_3 140 6) M_3) (fun r_5 M_6 => some (r_5, M_6)))))
noncomputable def f_X12_batchRoute  (x1 : Int) (M : Mem) : Option (Int × Mem) :=
  cl1 (f_X12_isBatch x1 M) (fun r_1 => (if w32 r_1 = 0 then j_X12_batchRoute_14 x1 1 M else j_X12_batchRoute_14 x1 0 M))
noncomputable def j_X12_bestPolicy_73_30   (x1 : Int) (x3 : Int) (y0 : Int) (M : Mem) : Option ((Int × Int × Mem) ⊕ ((Int × Mem) ⊕ (Int × Mem))) :=
  bnd (x3 + 1) (fun x3_10 => some (.inl (y0, x3_10, M)))
noncomputable def s_X12_bestPolicy_30  (x1 : Int) (x2 : Int) (x3 : Int) (M : Mem) : Option ((Int × Int × Mem) ⊕ ((Int × Mem) ⊕ (Int × Mem))) :=
  (if w32 x3 < 4 then gi (461 + x1) 469 (cl2 (f_X12_routes (M 140 (ix (461 + x1))) x3 M) (fun r_5 M_6 => gi (461 + x1) 469 (cl2 (f_X12_routes (M_6 140 (ix (461 + x1))) x2 M_6) (fun r_8 M_9 => (if w32 r_5 < w32 r_8 then j_X12_bestPolicy_73_30 x1 x3 x3 M_9 else j_X12_bestPolicy_73_30 x1 x3 x2 M_9))))) else some (.inr (.inl (x2, M))))
noncomputable def j_X12_bestPolicy_14   (x1 : Int) (y1 : Int) (M : Mem) : Option (Int × Mem) :=
  bnd (upd2 M 139 0 y1) (fun M_3 => (if 0 < w32 (M_3 139 0) then some (0, M_3) else lpb (wh (fun x => s_X12_bestPolicy_30 x1 x.1 x.2.1 x.2.2) (0, 1, M_3)) (fun z_11 => some (z_11.1, z_11.2)) (fun q => some q)))
noncomputable def f_X12_bestPolicy  (x1 : Int) (M : Mem) : Option (Int × Mem) :=
  cl1 (f_X12_isBatch x1 M) (fun r_1 => (if w32 r_1 = 0 then j_X12_bestPolicy_14 x1 1 M else j_X12_bestPolicy_14 x1 0 M))
noncomputable def j_X12_laysStops_93_56   (x2 : Int) (y1 : Int) (y2 : Int) (M : Mem) : Option ((Int × Mem) ⊕ ((Mem) ⊕ (Mem))) :=
  cl1 (f_X12_goes y1 y2 M) (fun M_10 => bnd (x2 + 1) (fun x2_11 => some (.inl (x2_11, M_10))))
noncomputable def j_X12_laysStops_88_56   (x2 : Int) (y1 : Int) (M : Mem) : Option ((Int × Mem) ⊕ ((Mem) ⊕ (Mem))) :=
  j_X12_laysStops_93_56 x2 y1 1 M
noncomputable def s_X12_laysStops_56  (x2 : Int) (M : Mem) : Option ((Int × Mem) ⊕ ((Mem) ⊕ (Mem))) :=
  (if w32 x2 < w32 (M 139 8) then gi x2 6 ((if w32 (M 140 6) = 1 then (if w32 (i_rem x2 2) = 0 then j_X12_laysStops_88_56 x2 (M 146 (ix x2)) M else j_X12_laysStops_93_56 x2 (M 146 (ix x2)) 0 M) else j_X12_laysStops_88_56 x2 (M 146 (ix x2)) M)) else some (.inr (.inl M)))
noncomputable def j_X12_laysStops_36   (M : Mem) : Option (Mem) :=
  (if w32 (M 140 6) = 3 then cl1 (f_X12_stopsCombined M) (fun M_7 => some M_7) else lpb (wh (fun x => s_X12_laysStops_56 x.1 x.2) (0, M)) (fun z_12 => some z_12) (fun q => some q))
noncomputable def f_X12_laysStops  (x1 : Int) (M : Mem) : Option (Mem) :=
  cl1 (f_X12_laysAisles x1 M) (fun M_2 => bnd (upd2 M_2 139 14 0) (fun M_3 => (if w32 (M_3 140 6) = 2 then (if 1 < w32 (M_3 139 8) then cl1 (f_X12_stopsByGaps M_3) (fun M_5 => some M_5) else j_X12_laysStops_36 M_3) else j_X12_laysStops_36 M_3)))
noncomputable def s_X12_readOrder_47  (x2 : Int) (M : Mem) : Option ((Mem) ⊕ ((Mem) ⊕ (Mem))) :=
  cl1 (f_X12_isWell M) (fun r_9 => (if w32 r_9 = 0 then some (.inr (.inl M)) else cl1 (f_X12_wordHere M) (fun r_11 => (if w32 r_11 = 3 then cl1 (f_X12_readLine x2 M) (fun M_14 => some (.inl M_14)) else some (.inr (.inl M))))))
noncomputable def j_X12_readOrder_46   (y0 : Int) (M : Mem) : Option (Mem) :=
  lpb (wh (fun x => s_X12_readOrder_47 y0 x) M) (fun z_15 => some z_15) (fun q => some q)
noncomputable def f_X12_readOrder  (M : Mem) : Option (Mem) :=
  (if w32 (M 140 4) = 16 then cl1 (f_X12_fails 3 M) (fun M_2 => some M_2) else cl1 (f_X12_next M) (fun M_4 => cl2 (f_X12_read 0 9999 M_4) (fun r_5 M_6 => cl1 (f_X12_isWell M_6) (fun r_7 => (if w32 r_7 = 0 then j_X12_readOrder_46 0 M_6 else cl2 (f_X12_opensOrder r_5 M_6) (fun r_16 M_17 => j_X12_readOrder_46 r_16 M_17))))))
noncomputable def j_X12_seeksMove_101_27   (x1 : Int) (x2 : Int) (x3 : Int) (x4 : Int) (x5 : Int) (x6 : Int) (M : Mem) : Option ((Int × Int × Mem) ⊕ ((Int × Mem) ⊕ (Int × Mem))) :=
  bnd (x6 + 1) (fun x6_5 => some (.inl (x3, x6_5, M)))
noncomputable def j_X12_seeksMove_78_27   (x1 : Int) (x2 : Int) (x3 : Int) (x4 : Int) (x5 : Int) (x6 : Int) (y0 : Int) (M : Mem) : Option ((Int × Int × Mem) ⊕ ((Int × Mem) ⊕ (Int × Mem))) :=
  (if w32 x3 < w32 y0 then bnd (upd2 M 139 11 x4) (fun M_3 => bnd (upd2 M_3 139 12 x6) (fun M_4 => j_X12_seeksMove_101_27 x1 x2 y0 x4 x5 x6 M_4)) else j_X12_seeksMove_101_27 x1 x2 x3 x4 x5 x6 M)
noncomputable def j_X12_seeksMove_77_27   (x1 : Int) (x2 : Int) (x3 : Int) (x4 : Int) (x5 : Int) (x6 : Int) (M : Mem) : Option ((Int × Int × Mem) ⊕ ((Int × Mem) ⊕ (Int × Mem))) :=
  j_X12_seeksMove_78_27 x1 x2 x3 x4 x5 x6 0 M
noncomputable def s_X12_seeksMove_27  (x1 : Int) (x2 : Int) (x4 : Int) (x5 : Int) (x3 : Int) (x6 : Int) (M : Mem) : Option ((Int × Int × Mem) ⊕ ((Int × Mem) ⊕ (Int × Mem))) :=
  (if w32 x6 < w32 (M 140 5) then (if w32 x5 = (-1) then some (.inr (.inl (x3, M))) else (if w32 x6 = w32 x5 then j_X12_seeksMove_77_27 x1 x2 x3 x4 x5 x6 M else cl1 (f_X12_takes x6 x4 x1 x2 M) (fun r_6 => (if w32 r_6 = 0 then j_X12_seeksMove_77_27 x1 x2 x3 x4 x5 x6 M else cl2 (f_X12_gainOf x4 x5 x6 M) (fun r_8 M_9 => j_X12_seeksMove_78_27 x1 x2 x3 x4 x5 x6 r_8 M_9))))) else some (.inr (.inl (x3, M))))
noncomputable def j_X12_seeksMove_107_5   (x1 : Int) (x2 : Int) (x3 : Int) (x4 : Int) (M : Mem) : Option ((Int × Int × Mem) ⊕ ((Int × Mem) ⊕ (Int × Mem))) :=
  bnd (x4 + 1) (fun x4_11 => some (.inl (x3, x4_11, M)))
noncomputable def s_X12_seeksMove_5  (x1 : Int) (x2 : Int) (x3 : Int) (x4 : Int) (M : Mem) : Option ((Int × Int × Mem) ⊕ ((Int × Mem) ⊕ (Int × Mem))) :=
  (if w32 x4 < w32 (M 140 4) then cl1 (f_X12_batchOf x4 M) (fun r_1 => lpb (wh (fun x => s_X12_seeksMove_27 x1 x2 x4 r_1 x.1 x.2.1 x.2.2) (x3, 0, M)) (fun z_10 => j_X12_seeksMove_107_5 x1 x2 z_10.1 x4 z_10.2) (fun q => some (.inr (.inr q)))) else some (.inr (.inl (x3, M))))
noncomputable def f_X12_seeksMove  (x1 : Int) (x2 : Int) (M : Mem) : Option (Int × Mem) :=
  lpb (wh (fun x => s_X12_seeksMove_5 x1 x2 x.1 x.2.1 x.2.2) (0, 0, M)) (fun z_12 => (if 0 < w32 z_12.1 then some (1, z_12.2) else some (0, z_12.2))) (fun q => some q)
noncomputable def j_X12_stopCount_15   (x1 : Int) (x2 : Int) (y1 : Int) (M : Mem) : Option (Int × Mem) :=
  bnd (upd2 M 139 0 y1) (fun M_3 => (if 0 < w32 (M_3 139 0) then some (0, M_3) else gi (461 + x1) 469 (cl1 (f_X12_laysSpots (M_3 140 (ix (461 + x1))) M_3) (fun M_6 => cl1 (f_X12_laysStops x2 M_6) (fun M_8 => some ((M_8 139 14), M_8))))))
noncomputable def f_X12_stopCount  (x1 : Int) (x2 : Int) (M : Mem) : Option (Int × Mem) :=
  cl1 (f_X12_isPart x1 x2 M) (fun r_1 => (if w32 r_1 = 0 then j_X12_stopCount_15 x1 x2 1 M else j_X12_stopCount_15 x1 x2 0 M))
noncomputable def j_X12_stopItem_66   (x3 : Int) (y1 : Int) (M : Mem) : Option (Int × Mem) :=
  bnd (upd2 M 139 0 y1) (fun M_11 => (if 0 < w32 (M_11 139 0) then some (0, M_11) else gi x3 24 (some ((M_11 147 (ix x3)), M_11))))
noncomputable def j_X12_stopItem_15   (x1 : Int) (x2 : Int) (x3 : Int) (y1 : Int) (M : Mem) : Option (Int × Mem) :=
  bnd (upd2 M 139 0 y1) (fun M_3 => (if 0 < w32 (M_3 139 0) then some (0, M_3) else gi (461 + x1) 469 (cl1 (f_X12_laysSpots (M_3 140 (ix (461 + x1))) M_3) (fun M_6 => cl1 (f_X12_laysStops x2 M_6) (fun M_8 => cl1 (f_X12_in x3 0 ((M_8 139 14) - 1) M_8) (fun r_9 => (if w32 r_9 = 0 then j_X12_stopItem_66 x3 1 M_8 else j_X12_stopItem_66 x3 0 M_8)))))))
noncomputable def f_X12_stopItem  (x1 : Int) (x2 : Int) (x3 : Int) (M : Mem) : Option (Int × Mem) :=
  cl1 (f_X12_isPart x1 x2 M) (fun r_1 => (if w32 r_1 = 0 then j_X12_stopItem_15 x1 x2 x3 1 M else j_X12_stopItem_15 x1 x2 x3 0 M))
noncomputable def j_X12_savedDistance_47_9   (x2 : Int) (y0 : Int) (y1 : Int) (M : Mem) : Option ((Int × Int × Mem) ⊕ ((Int × Mem) ⊕ (Int × Mem))) :=
  bnd (y0 + y1) (fun x1_4 => bnd (x2 + 1) (fun x2_5 => some (.inl (x1_4, x2_5, M))))
noncomputable def s_X12_savedDistance_9  (x1 : Int) (x2 : Int) (M : Mem) : Option ((Int × Int × Mem) ⊕ ((Int × Mem) ⊕ (Int × Mem))) :=
  (if w32 x2 < w32 (M 140 4) then cl1 (f_X12_batchOf x2 M) (fun r_2 => (if w32 r_2 = (-1) then j_X12_savedDistance_47_9 x2 x1 0 M else cl2 (f_X12_routes (i_shl 1 x2) (M 140 6) M) (fun r_6 M_7 => j_X12_savedDistance_47_9 x2 x1 r_6 M_7))) else some (.inr (.inl (x1, M))))
noncomputable def f_X12_savedDistance  (M : Mem) : Option (Int × Mem) :=
  bnd (upd2 M 139 0 0) (fun M_1 => lpb (wh (fun x => s_X12_savedDistance_9 x.1 x.2.1 x.2.2) (0, 0, M_1)) (fun z_8 => cl2 (f_X12_allRoutes z_8.2) (fun r_9 M_10 => some ((z_8.1 - r_9), M_10))) (fun q => some q))
noncomputable def j_X12_laysWork_101_35   (x1 : Int) (x2 : Int) (y1 : Int) (y2 : Int) (M : Mem) : Option ((Int × Mem) ⊕ ((Mem) ⊕ (Mem))) :=
  gi y1 24 (bnd (upd2 M 148 (ix y1) y2) (fun M_10 => bnd (x2 + 1) (fun x2_12 => some (.inl (x2_12, M_10)))))
noncomputable def s_X12_laysWork_35  (x1 : Int) (x2 : Int) (M : Mem) : Option ((Int × Mem) ⊕ ((Mem) ⊕ (Mem))) :=
  cl1 (f_X12_zones M) (fun r_6 => (if w32 x2 < w32 r_6 then cl1 (f_X12_laysStops x2 M) (fun M_9 => (if w32 (M_9 139 14) = 0 then j_X12_laysWork_101_35 x1 x2 ((3 * x1) + x2) 0 M_9 else cl2 (f_X12_routeOf x2 (M_9 140 6) M_9) (fun r_13 M_14 => j_X12_laysWork_101_35 x1 x2 ((3 * x1) + x2) (((M_9 140 11) + r_13) + ((M_14 140 12) * (M_14 139 14))) M_14))) else some (.inr (.inl M))))
noncomputable def s_X12_laysWork_2  (x1 : Int) (M : Mem) : Option ((Int × Mem) ⊕ ((Mem) ⊕ (Mem))) :=
  (if w32 x1 < w32 (M 140 5) then gi x1 8 (bnd (upd2 M 149 (ix x1) x1) (fun M_1 => gi (461 + x1) 469 (cl1 (f_X12_laysSpots (M_1 140 (ix (461 + x1))) M_1) (fun M_5 => lpb (wh (fun x => s_X12_laysWork_35 x1 x.1 x.2) (0, M_5)) (fun z_15 => bnd (x1 + 1) (fun x1_16 => some (.inl (x1_16, z_15)))) (fun q => some (.inr (.inr q))))))) else some (.inr (.inl M)))
noncomputable def f_X12_laysWork  (M : Mem) : Option (Mem) :=
  lpb (wh (fun x => s_X12_laysWork_2 x.1 x.2) (0, M)) (fun z_17 => some z_17) (fun q => some q)
noncomputable def j_X12_readStatement_95   (M : Mem) : Option (Mem) :=
  cl1 (f_X12_ends M) (fun M_6 => some M_6)
noncomputable def f_X12_readStatement  (M : Mem) : Option (Mem) :=
  cl1 (f_X12_wordHere M) (fun r_1 => (if w32 r_1 = 1 then cl1 (f_X12_readItem M) (fun M_4 => j_X12_readStatement_95 M_4) else (if w32 r_1 = 2 then cl1 (f_X12_readOrder M) (fun M_8 => j_X12_readStatement_95 M_8) else (if w32 r_1 = 3 then cl1 (f_X12_fails 1 M) (fun M_10 => j_X12_readStatement_95 M_10) else (if w32 r_1 = 4 then cl1 (f_X12_readZones M) (fun M_12 => j_X12_readStatement_95 M_12) else (if w32 r_1 = 5 then cl1 (f_X12_readBuffer M) (fun M_14 => j_X12_readStatement_95 M_14) else (if w32 r_1 = 6 then cl1 (f_X12_readTimes M) (fun M_16 => j_X12_readStatement_95 M_16) else (if w32 r_1 = 7 then cl1 (f_X12_readPolicy M) (fun M_18 => j_X12_readStatement_95 M_18) else cl1 (f_X12_fails 1 M) (fun M_20 => j_X12_readStatement_95 M_20)))))))))
noncomputable def j_X12_improve_123_40   (x1 : Int) (x2 : Int) (x3 : Int) (M : Mem) : Option ((Int × Mem) ⊕ ((Int × Mem) ⊕ (Int × Mem))) :=
  bnd (x3 + 1) (fun x3_17 => some (.inl (x3_17, M)))
noncomputable def s_X12_improve_40  (x1 : Int) (x2 : Int) (x3 : Int) (M : Mem) : Option ((Int × Mem) ⊕ ((Int × Mem) ⊕ (Int × Mem))) :=
  cl2 (f_X12_seeksMove x1 x2 M) (fun r_4 M_5 => (if w32 r_4 = 0 then some (.inr (.inl (x3, M_5))) else cl1 (f_X12_batchOf (M_5 139 11) M_5) (fun r_6 => gi (461 + (M_5 139 12)) 469 (gi (461 + (M_5 139 12)) 469 (bnd (upd2 M_5 140 (ix (461 + (M_5 139 12))) (i_or (M_5 140 (ix (461 + (M_5 139 12)))) (i_shl 1 (M_5 139 11)))) (fun M_9 => gi (461 + r_6) 469 (gi (461 + r_6) 469 (bnd (upd2 M_9 140 (ix (461 + r_6)) (i_and (M_9 140 (ix (461 + r_6))) (i_xor (i_shl 1 (M_9 139 11)) (-1)))) (fun M_12 => gi (461 + r_6) 469 ((if w32 (M_12 140 (ix (461 + r_6))) = 0 then cl1 (f_X12_removes r_6 M_12) (fun M_16 => j_X12_improve_123_40 x1 x2 x3 M_16) else j_X12_improve_123_40 x1 x2 x3 M_12)))))))))))
noncomputable def j_X12_improve_26   (x1 : Int) (x2 : Int) (y1 : Int) (M : Mem) : Option (Int × Mem) :=
  bnd (upd2 M 139 0 y1) (fun M_3 => (if 0 < w32 (M_3 139 0) then some (0, M_3) else lpb (wh (fun x => s_X12_improve_40 x1 x2 x.1 x.2) (0, M_3)) (fun z_18 => some (z_18.1, z_18.2)) (fun q => some q)))
noncomputable def j_X12_improve_25   (x1 : Int) (x2 : Int) (M : Mem) : Option (Int × Mem) :=
  j_X12_improve_26 x1 x2 1 M
noncomputable def f_X12_improve  (x1 : Int) (x2 : Int) (M : Mem) : Option (Int × Mem) :=
  cl1 (f_X12_in x1 1 6 M) (fun r_1 => (if w32 r_1 = 0 then j_X12_improve_25 x1 x2 M else cl1 (f_X12_in x2 1 99999 M) (fun r_19 => (if w32 r_19 = 0 then j_X12_improve_25 x1 x2 M else j_X12_improve_26 x1 x2 0 M))))
noncomputable def f_X12_laysSchedule  (M : Mem) : Option (Mem) :=
  cl1 (f_X12_laysWork M) (fun M_2 => cl1 (f_X12_laysTimes M_2) (fun M_4 => some M_4))
noncomputable def s_X12_load_45  (M : Mem) : Option ((Mem) ⊕ ((Mem) ⊕ (Int × Mem))) :=
  cl1 (f_X12_isWell M) (fun r_13 => (if w32 r_13 = 0 then some (.inr (.inl M)) else (if w32 (M 139 26) = 0 then some (.inr (.inl M)) else cl1 (f_X12_readStatement M) (fun M_16 => some (.inl M_16)))))
noncomputable def j_X12_load_66   (M : Mem) : Option (Int × Mem) :=
  bnd (upd2 M 139 23 0) (fun M_18 => cl1 (f_X12_isWell M_18) (fun r_19 => (if w32 r_19 = 0 then cl1 (f_X12_copies 141 469 140 469 0 0 M_18) (fun M_22 => some ((-1), M_22)) else some ((M_18 140 4), M_18))))
noncomputable def f_X12_load  (M : Mem) : Option (Int × Mem) :=
  bnd (upd2 M 139 0 0) (fun M_1 => cl1 (f_X12_copies 140 469 141 469 0 0 M_1) (fun M_3 => cl1 (f_X12_begins M_3) (fun M_5 => bnd (upd2 M_5 139 24 0) (fun M_6 => bnd (upd2 M_6 139 28 0) (fun M_7 => bnd (upd2 M_7 139 29 (-1)) (fun M_8 => cl1 (f_X12_next M_8) (fun M_10 => cl1 (f_X12_readHall M_10) (fun M_12 => lpb (wh (fun x => s_X12_load_45 x) M_12) (fun z_17 => j_X12_load_66 z_17) (fun q => some q)))))))))
noncomputable def j_X12_isPartLaid_15   (y1 : Int) (M : Mem) : Option (Int × Mem) :=
  bnd (upd2 M 139 0 y1) (fun M_3 => (if 0 < w32 (M_3 139 0) then some (0, M_3) else cl1 (f_X12_laysSchedule M_3) (fun M_5 => some (1, M_5))))
noncomputable def f_X12_isPartLaid  (x1 : Int) (x2 : Int) (M : Mem) : Option (Int × Mem) :=
  cl1 (f_X12_isPart x1 x2 M) (fun r_1 => (if w32 r_1 = 0 then j_X12_isPartLaid_15 1 M else j_X12_isPartLaid_15 0 M))
noncomputable def s_X12_blockedTime_34  (x1 : Int) (M : Mem) (x2 : Int) (x3 : Int) : Option ((Int × Int) ⊕ ((Int) ⊕ (Int × Mem))) :=
  (if w32 x3 < w32 (M 140 5) then bnd ((3 * x3) + x1) (fun x4_6 => gi x4_6 24 (gi x4_6 24 (gi x4_6 24 (bnd (x2 + (((M 151 (ix x4_6)) - (M 150 (ix x4_6))) - (M 148 (ix x4_6)))) (fun x2_10 => bnd (x3 + 1) (fun x3_11 => some (.inl (x2_10, x3_11)))))))) else some (.inr (.inl x2)))
noncomputable def j_X12_blockedTime_14   (x1 : Int) (y1 : Int) (M : Mem) : Option (Int × Mem) :=
  bnd (upd2 M 139 0 y1) (fun M_3 => (if 0 < w32 (M_3 139 0) then some (0, M_3) else cl1 (f_X12_laysSchedule M_3) (fun M_5 => lpb (wh (fun x => s_X12_blockedTime_34 x1 M_5 x.1 x.2) (0, 0)) (fun z_12 => some (z_12, M_5)) (fun q => some q))))
noncomputable def f_X12_blockedTime  (x1 : Int) (M : Mem) : Option (Int × Mem) :=
  cl1 (f_X12_isZone x1 M) (fun r_1 => (if w32 r_1 = 0 then j_X12_blockedTime_14 x1 1 M else j_X12_blockedTime_14 x1 0 M))
noncomputable def f_X12_makespan  (M : Mem) : Option (Int × Mem) :=
  bnd (upd2 M 139 0 0) (fun M_1 => cl1 (f_X12_laysSchedule M_1) (fun M_3 => (if w32 (M_3 140 5) = 0 then some (0, M_3) else cl1 (f_X12_completes ((M_3 140 5) - 1) M_3) (fun r_4 => some (r_4, M_3)))))
noncomputable def j_X12_lateness_28   (x1 : Int) (y1 : Int) (M : Mem) : Option (Int × Mem) :=
  bnd (upd2 M 139 0 y1) (fun M_3 => (if 0 < w32 (M_3 139 0) then some (0, M_3) else cl1 (f_X12_laysSchedule M_3) (fun M_5 => cl1 (f_X12_batchOf x1 M_5) (fun r_6 => cl1 (f_X12_completes r_6 M_5) (fun r_8 => cl1 (f_X12_ofOrder x1 0 M_5) (fun r_10 => some ((r_8 - r_10), M_5)))))))
noncomputable def f_X12_lateness  (x1 : Int) (M : Mem) : Option (Int × Mem) :=
  cl1 (f_X12_isOrder x1 M) (fun r_1 => (if w32 r_1 = 0 then j_X12_lateness_28 x1 1 M else cl1 (f_X12_ofOrder x1 1 M) (fun r_12 => (if w32 r_12 = 1 then j_X12_lateness_28 x1 0 M else j_X12_lateness_28 x1 2 M))))
noncomputable def j_X12_lateOrders_56_13   (x2 : Int) (y0 : Int) (y1 : Int) (M : Mem) : Option ((Int × Int) ⊕ ((Int) ⊕ (Int × Mem))) :=
  bnd (i_or y0 y1) (fun x1_6 => bnd (x2 + 1) (fun x2_7 => some (.inl (x1_6, x2_7))))
noncomputable def j_X12_lateOrders_55_13   (x2 : Int) (y0 : Int) (M : Mem) : Option ((Int × Int) ⊕ ((Int) ⊕ (Int × Mem))) :=
  j_X12_lateOrders_56_13 x2 y0 0 M
noncomputable def s_X12_lateOrders_13  (M : Mem) (x1 : Int) (x2 : Int) : Option ((Int × Int) ⊕ ((Int) ⊕ (Int × Mem))) :=
  (if w32 x2 < w32 (M 140 4) then cl1 (f_X12_batchOf x2 M) (fun r_4 => (if w32 r_4 = (-1) then j_X12_lateOrders_55_13 x2 x1 M else cl1 (f_X12_completes r_4 M) (fun r_8 => cl1 (f_X12_ofOrder x2 0 M) (fun r_10 => (if w32 r_10 < w32 r_8 then j_X12_lateOrders_56_13 x2 x1 (i_shl 1 x2) M else j_X12_lateOrders_55_13 x2 x1 M))))) else some (.inr (.inl x1)))
noncomputable def f_X12_lateOrders  (M : Mem) : Option (Int × Mem) :=
  bnd (upd2 M 139 0 0) (fun M_1 => cl1 (f_X12_laysSchedule M_1) (fun M_3 => lpb (wh (fun x => s_X12_lateOrders_13 M_3 x.1 x.2) (0, 0)) (fun z_12 => some (z_12, M_3)) (fun q => some q)))
noncomputable def f_X12_totalTardiness  (M : Mem) : Option (Int × Mem) :=
  bnd (upd2 M 139 0 0) (fun M_1 => cl1 (f_X12_laysSchedule M_1) (fun M_3 => cl1 (f_X12_tardiness M_3) (fun r_4 => some (r_4, M_3))))
noncomputable def f_X12_meanTardinessNumerator  (M : Mem) : Option (Int × Mem) :=
  bnd (upd2 M 139 0 0) (fun M_1 => cl1 (f_X12_laysSchedule M_1) (fun M_3 => cl1 (f_X12_tardiness M_3) (fun r_4 => (if w32 r_4 = 0 then some (0, M_3) else cl1 (f_X12_batchedMany M_3) (fun r_6 => cl1 (f_X12_common r_4 r_6 M_3) (fun r_8 => gn r_8 (some ((i_div r_4 r_8), M_3))))))))
noncomputable def f_X12_meanTardinessDenominator  (M : Mem) : Option (Int × Mem) :=
  bnd (upd2 M 139 0 0) (fun M_1 => cl1 (f_X12_laysSchedule M_1) (fun M_3 => cl1 (f_X12_tardiness M_3) (fun r_4 => (if w32 r_4 = 0 then some (1, M_3) else cl1 (f_X12_batchedMany M_3) (fun r_6 => cl1 (f_X12_batchedMany M_3) (fun r_8 => cl1 (f_X12_common r_4 r_8 M_3) (fun r_10 => gn r_10 (some ((i_div r_6 r_10), M_3)))))))))
noncomputable def s_X12_sortBatches_70  (x2 : Int) (M : Mem) : Option ((Int × Mem) ⊕ ((Mem) ⊕ (Int × Mem))) :=
  (if w32 x2 < w32 (M 140 5) then gi x2 8 (gi (461 + (M 149 (ix x2))) 469 (gi x2 8 (bnd (upd2 M 154 (ix x2) (M 140 (ix (461 + (M 149 (ix x2)))))) (fun M_10 => bnd (x2 + 1) (fun x2_12 => some (.inl (x2_12, M_10))))))) else some (.inr (.inl M)))
noncomputable def s_X12_sortBatches_109  (x2 : Int) (M : Mem) : Option ((Int × Mem) ⊕ ((Mem) ⊕ (Int × Mem))) :=
  (if w32 x2 < w32 (M 140 5) then gi x2 8 (gi (461 + x2) 469 (bnd (upd2 M 140 (ix (461 + x2)) (M 154 (ix x2))) (fun M_15 => bnd (x2 + 1) (fun x2_17 => some (.inl (x2_17, M_15)))))) else some (.inr (.inl M)))
noncomputable def j_X12_sortBatches_68   (M : Mem) : Option (Int × Mem) :=
  lpb (wh (fun x => s_X12_sortBatches_70 x.1 x.2) (0, M)) (fun z_13 => lpb (wh (fun x => s_X12_sortBatches_109 x.1 x.2) (0, z_13)) (fun z_18 => cl1 (f_X12_laysSchedule z_18) (fun M_20 => cl1 (f_X12_tardiness M_20) (fun r_21 => some (r_21, M_20)))) (fun q => some q)) (fun q => some q)
noncomputable def j_X12_sortBatches_35   (x1 : Int) (y1 : Int) (M : Mem) : Option (Int × Mem) :=
  bnd (upd2 M 139 0 y1) (fun M_3 => (if 0 < w32 (M_3 139 0) then some (0, M_3) else cl1 (f_X12_laysWork M_3) (fun M_5 => (if w32 x1 < 2 then cl1 (f_X12_sortsBy x1 M_5) (fun M_7 => j_X12_sortBatches_68 M_7) else cl1 (f_X12_seeksSequence M_5) (fun M_24 => j_X12_sortBatches_68 M_24)))))
noncomputable def j_X12_sortBatches_34   (x1 : Int) (M : Mem) : Option (Int × Mem) :=
  j_X12_sortBatches_35 x1 0 M
noncomputable def f_X12_sortBatches  (x1 : Int) (M : Mem) : Option (Int × Mem) :=
  cl1 (f_X12_in x1 0 2 M) (fun r_1 => (if w32 r_1 = 0 then j_X12_sortBatches_35 x1 1 M else (if w32 x1 = 2 then (if 6 < w32 (M 140 5) then j_X12_sortBatches_35 x1 2 M else j_X12_sortBatches_34 x1 M) else j_X12_sortBatches_34 x1 M)))
noncomputable def f_X12_workTime  (x1 : Int) (x2 : Int) (M : Mem) : Option (Int × Mem) :=
  cl2 (f_X12_isPartLaid x1 x2 M) (fun r_1 M_2 => (if w32 r_1 = 0 then some (0, M_2) else gi ((3 * x1) + x2) 24 (some ((M_2 148 (ix ((3 * x1) + x2))), M_2))))
noncomputable def f_X12_startTime  (x1 : Int) (x2 : Int) (M : Mem) : Option (Int × Mem) :=
  cl2 (f_X12_isPartLaid x1 x2 M) (fun r_1 M_2 => (if w32 r_1 = 0 then some (0, M_2) else gi ((3 * x1) + x2) 24 (some ((M_2 150 (ix ((3 * x1) + x2))), M_2))))
noncomputable def f_X12_leaveTime  (x1 : Int) (x2 : Int) (M : Mem) : Option (Int × Mem) :=
  cl2 (f_X12_isPartLaid x1 x2 M) (fun r_1 M_2 => (if w32 r_1 = 0 then some (0, M_2) else gi ((3 * x1) + x2) 24 (some ((M_2 151 (ix ((3 * x1) + x2))), M_2))))
noncomputable def f_X11_restore  (x1 : Int) (M : Mem) : Option ((Nat ⊕ Unit) × Mem) :=
  cx1 (f_X11_needArgument x1 0 1 M) (fun e_3 => some (.inl e_3, M)) (fun r_1 => gi x1 2 (if M 37 (ix x1) = 0 then some (.inl 1, M) else cl1 (f_X1_copyFrom 1 (160 + 18 * ix x1) M) (fun M_6 => some (.inr (), M_6))))
noncomputable def f_L_setLayout (a4 : Nat) (x1 : Int) (x2 : Int) (x3 : Int) (M : Mem) : Option (Int × Mem) :=
  cx2 (f_X11_setLayout x1 x2 x3 M) (fun e M1 => (if e = 2 then some (1, M1) else (if e = 1 then some (2, M1) else none))) (fun r M1 => some (0, upd2 M1 a4 0 (w32 r)))
noncomputable def f_L_addItem (a5 : Nat) (x1 : Int) (x2 : Int) (x3 : Int) (x4 : Int) (M : Mem) : Option (Int × Mem) :=
  cx2 (f_X11_addItem x1 x2 x3 x4 M) (fun e M1 => (if e = 3 then some (1, M1) else (if e = 2 then some (2, M1) else (if e = 1 then some (3, M1) else none)))) (fun r M1 => some (0, upd2 M1 a5 0 (w32 r)))
noncomputable def f_L_stock (a2 : Nat) (x1 : Int) (M : Mem) : Option (Int × Mem) :=
  cx1 (f_X11_stock x1 M) (fun e => (if e = 3 then some (1, M) else none)) (fun r => some (0, upd2 M a2 0 (w32 r)))
noncomputable def f_L_restock (a3 : Nat) (x1 : Int) (x2 : Int) (M : Mem) : Option (Int × Mem) :=
  cx2 (f_X11_restock x1 x2 M) (fun e M1 => (if e = 3 then some (1, M1) else (if e = 2 then some (2, M1) else none))) (fun r M1 => some (0, upd2 M1 a3 0 (w32 r)))
noncomputable def f_L_addOrder (a2 : Nat) (x1 : Int) (M : Mem) : Option (Int × Mem) :=
  cx2 (f_X11_addOrder x1 M) (fun e M1 => (if e = 2 then some (1, M1) else (if e = 1 then some (2, M1) else none))) (fun r M1 => some (0, upd2 M1 a2 0 (w32 r)))
noncomputable def f_L_addLine (a4 : Nat) (x1 : Int) (x2 : Int) (x3 : Int) (M : Mem) : Option (Int × Mem) :=
  cx2 (f_X11_addLine x1 x2 x3 M) (fun e M1 => (if e = 3 then some (1, M1) else (if e = 2 then some (2, M1) else (if e = 1 then some (3, M1) else none)))) (fun r M1 => some (0, upd2 M1 a4 0 (w32 r)))
noncomputable def f_L_orderState (a2 : Nat) (x1 : Int) (M : Mem) : Option (Int × Mem) :=
  cx1 (f_X11_orderState x1 M) (fun e => (if e = 3 then some (1, M) else none)) (fun r => some (0, upd2 M a2 0 (w32 r)))
noncomputable def f_L_lineCount (a2 : Nat) (x1 : Int) (M : Mem) : Option (Int × Mem) :=
  cx1 (f_X11_lineCount x1 M) (fun e => (if e = 3 then some (1, M) else none)) (fun r => some (0, upd2 M a2 0 (w32 r)))
noncomputable def f_L_due (a2 : Nat) (x1 : Int) (M : Mem) : Option (Int × Mem) :=
  cx1 (f_X11_due x1 M) (fun e => (if e = 3 then some (1, M) else none)) (fun r => some (0, upd2 M a2 0 (w32 r)))
noncomputable def f_L_setDue (a3 : Nat) (x1 : Int) (x2 : Int) (M : Mem) : Option (Int × Mem) :=
  cx2 (f_X11_setDue x1 x2 M) (fun e M1 => (if e = 3 then some (1, M1) else (if e = 2 then some (2, M1) else (if e = 1 then some (3, M1) else none)))) (fun r M1 => some (0, upd2 M1 a3 0 (w32 r)))
noncomputable def f_L_orderWeight (a2 : Nat) (x1 : Int) (M : Mem) : Option (Int × Mem) :=
  cx1 (f_X11_orderWeight x1 M) (fun e => (if e = 3 then some (1, M) else none)) (fun r => some (0, upd2 M a2 0 (w32 r)))
noncomputable def f_L_orderAisles (a2 : Nat) (x1 : Int) (M : Mem) : Option (Int × Mem) :=
  cx1 (f_X11_orderAisles x1 M) (fun e => (if e = 3 then some (1, M) else none)) (fun r => some (0, upd2 M a2 0 (w32 r)))
noncomputable def f_L_cancel (a2 : Nat) (x1 : Int) (M : Mem) : Option (Int × Mem) :=
  cx2 (f_X11_cancel x1 M) (fun e M1 => (if e = 3 then some (1, M1) else (if e = 1 then some (2, M1) else none))) (fun r M1 => some (0, upd2 M1 a2 0 (w32 r)))
noncomputable def f_L_makeBatches (a4 : Nat) (x1 : Int) (x2 : Int) (x3 : Int) (M : Mem) : Option (Int × Mem) :=
  cx2 (f_X11_makeBatches x1 x2 x3 M) (fun e M1 => (if e = 2 then some (1, M1) else none)) (fun r M1 => some (0, upd2 M1 a4 0 (w32 r)))
noncomputable def f_L_addBatch (a2 : Nat) (x1 : Int) (M : Mem) : Option (Int × Mem) :=
  cx2 (f_X11_addBatch x1 M) (fun e M1 => (if e = 2 then some (1, M1) else (if e = 1 then some (2, M1) else none))) (fun r M1 => some (0, upd2 M1 a2 0 (w32 r)))
noncomputable def f_L_dissolve (a2 : Nat) (x1 : Int) (M : Mem) : Option (Int × Mem) :=
  cx2 (f_X11_dissolve x1 M) (fun e M1 => (if e = 3 then some (1, M1) else none)) (fun r M1 => some (0, upd2 M1 a2 0 (w32 r)))
noncomputable def f_L_batchOrders (a2 : Nat) (x1 : Int) (M : Mem) : Option (Int × Mem) :=
  cx1 (f_X11_batchOrders x1 M) (fun e => (if e = 3 then some (1, M) else none)) (fun r => some (0, upd2 M a2 0 (w32 r)))
noncomputable def f_L_batchWeight (a2 : Nat) (x1 : Int) (M : Mem) : Option (Int × Mem) :=
  cx1 (f_X11_batchWeight x1 M) (fun e => (if e = 3 then some (1, M) else none)) (fun r => some (0, upd2 M a2 0 (w32 r)))
noncomputable def f_L_improve (a3 : Nat) (x1 : Int) (x2 : Int) (M : Mem) : Option (Int × Mem) :=
  cx2 (f_X11_improve x1 x2 M) (fun e M1 => (if e = 2 then some (1, M1) else none)) (fun r M1 => some (0, upd2 M1 a3 0 (w32 r)))
noncomputable def f_L_sortBatches (a2 : Nat) (x1 : Int) (M : Mem) : Option (Int × Mem) :=
  cx2 (f_X11_sortBatches x1 M) (fun e M1 => (if e = 2 then some (1, M1) else (if e = 1 then some (2, M1) else none))) (fun r M1 => some (0, upd2 M1 a2 0 (w32 r)))
noncomputable def f_L_setPolicy (a2 : Nat) (x1 : Int) (M : Mem) : Option (Int × Mem) :=
  cx2 (f_X11_setPolicy x1 M) (fun e M1 => (if e = 2 then some (1, M1) else none)) (fun r M1 => some (0, upd2 M1 a2 0 (w32 r)))
noncomputable def f_L_setZones (a3 : Nat) (x1 : Int) (x2 : Int) (M : Mem) : Option (Int × Mem) :=
  cx2 (f_X11_setZones x1 x2 M) (fun e M1 => (if e = 2 then some (1, M1) else none)) (fun r M1 => some (0, upd2 M1 a3 0 (w32 r)))
noncomputable def f_L_zoneOf (a2 : Nat) (x1 : Int) (M : Mem) : Option (Int × Mem) :=
  cx1 (f_X11_zoneOf x1 M) (fun e => (if e = 3 then some (1, M) else none)) (fun r => some (0, upd2 M a2 0 (w32 r)))
noncomputable def f_L_setBuffer (a3 : Nat) (x1 : Int) (x2 : Int) (M : Mem) : Option (Int × Mem) :=
  cx2 (f_X11_setBuffer x1 x2 M) (fun e M1 => (if e = 3 then some (1, M1) else (if e = 2 then some (2, M1) else none))) (fun r M1 => some (0, upd2 M1 a3 0 (w32 r)))
noncomputable def f_L_setTimes (a3 : Nat) (x1 : Int) (x2 : Int) (M : Mem) : Option (Int × Mem) :=
  cx2 (f_X11_setTimes x1 x2 M) (fun e M1 => (if e = 2 then some (1, M1) else none)) (fun r M1 => some (0, upd2 M1 a3 0 (w32 r)))
noncomputable def f_L_routeLength (a4 : Nat) (x1 : Int) (x2 : Int) (x3 : Int) (M : Mem) : Option (Int × Mem) :=
  cx2 (f_X11_routeLength x1 x2 x3 M) (fun e M1 => (if e = 3 then some (1, M1) else (if e = 2 then some (2, M1) else none))) (fun r M1 => some (0, upd2 M1 a4 0 (w32 r)))
noncomputable def f_L_batchRoute (a2 : Nat) (x1 : Int) (M : Mem) : Option (Int × Mem) :=
  cx2 (f_X11_batchRoute x1 M) (fun e M1 => (if e = 3 then some (1, M1) else none)) (fun r M1 => some (0, upd2 M1 a2 0 (w32 r)))
noncomputable def f_L_bestPolicy (a2 : Nat) (x1 : Int) (M : Mem) : Option (Int × Mem) :=
  cx2 (f_X11_bestPolicy x1 M) (fun e M1 => (if e = 3 then some (1, M1) else none)) (fun r M1 => some (0, upd2 M1 a2 0 (w32 r)))
noncomputable def f_L_stopCount (a3 : Nat) (x1 : Int) (x2 : Int) (M : Mem) : Option (Int × Mem) :=
  cx2 (f_X11_stopCount x1 x2 M) (fun e M1 => (if e = 3 then some (1, M1) else none)) (fun r M1 => some (0, upd2 M1 a3 0 (w32 r)))
noncomputable def f_L_stopItem (a4 : Nat) (x1 : Int) (x2 : Int) (x3 : Int) (M : Mem) : Option (Int × Mem) :=
  cx2 (f_X11_stopItem x1 x2 x3 M) (fun e M1 => (if e = 3 then some (1, M1) else none)) (fun r M1 => some (0, upd2 M1 a4 0 (w32 r)))
noncomputable def f_L_workTime (a3 : Nat) (x1 : Int) (x2 : Int) (M : Mem) : Option (Int × Mem) :=
  cx2 (f_X11_workTime x1 x2 M) (fun e M1 => (if e = 3 then some (1, M1) else none)) (fun r M1 => some (0, upd2 M1 a3 0 (w32 r)))
noncomputable def f_L_startTime (a3 : Nat) (x1 : Int) (x2 : Int) (M : Mem) : Option (Int × Mem) :=
  cx2 (f_X11_startTime x1 x2 M) (fun e M1 => (if e = 3 then some (1, M1) else none)) (fun r M1 => some (0, upd2 M1 a3 0 (w32 r)))
noncomputable def f_L_leaveTime (a3 : Nat) (x1 : Int) (x2 : Int) (M : Mem) : Option (Int × Mem) :=
  cx2 (f_X11_leaveTime x1 x2 M) (fun e M1 => (if e = 3 then some (1, M1) else none)) (fun r M1 => some (0, upd2 M1 a3 0 (w32 r)))
noncomputable def f_L_blockedTime (a2 : Nat) (x1 : Int) (M : Mem) : Option (Int × Mem) :=
  cx2 (f_X11_blockedTime x1 M) (fun e M1 => (if e = 3 then some (1, M1) else none)) (fun r M1 => some (0, upd2 M1 a2 0 (w32 r)))
noncomputable def f_L_lateness (a2 : Nat) (x1 : Int) (M : Mem) : Option (Int × Mem) :=
  cx2 (f_X11_lateness x1 M) (fun e M1 => (if e = 3 then some (1, M1) else (if e = 1 then some (2, M1) else none))) (fun r M1 => some (0, upd2 M1 a2 0 (w32 r)))
noncomputable def f_L_pickBatch (a1 : Nat) (M : Mem) : Option (Int × Mem) :=
  cx2 (f_X11_pickBatch M) (fun e M1 => (if e = 1 then some (1, M1) else none)) (fun r M1 => some (0, upd2 M1 a1 0 (w32 r)))
noncomputable def f_L_pickedUnits (a3 : Nat) (x1 : Int) (x2 : Int) (M : Mem) : Option (Int × Mem) :=
  cx1 (f_X11_pickedUnits x1 x2 M) (fun e => (if e = 3 then some (1, M) else none)) (fun r => some (0, upd2 M a3 0 (w32 r)))
noncomputable def f_L_shortUnits (a3 : Nat) (x1 : Int) (x2 : Int) (M : Mem) : Option (Int × Mem) :=
  cx1 (f_X11_shortUnits x1 x2 M) (fun e => (if e = 3 then some (1, M) else none)) (fun r => some (0, upd2 M a3 0 (w32 r)))
noncomputable def f_L_reorder (a3 : Nat) (x1 : Int) (x2 : Int) (M : Mem) : Option (Int × Mem) :=
  cx2 (f_X11_reorder x1 x2 M) (fun e M1 => (if e = 3 then some (1, M1) else (if e = 2 then some (2, M1) else (if e = 1 then some (3, M1) else none)))) (fun r M1 => some (0, upd2 M1 a3 0 (w32 r)))
noncomputable def f_L_appendText (a2 : Nat) (x1 : Int) (M : Mem) : Option (Int × Mem) :=
  cx2 (f_X11_appendText x1 M) (fun e M1 => (if e = 1 then some (1, M1) else none)) (fun r M1 => some (0, upd2 M1 a2 0 (w32 r)))
noncomputable def f_L_truncateText (a2 : Nat) (x1 : Int) (M : Mem) : Option (Int × Mem) :=
  cx2 (f_X11_truncateText x1 M) (fun e M1 => (if e = 2 then some (1, M1) else none)) (fun r M1 => some (0, upd2 M1 a2 0 (w32 r)))
noncomputable def f_L_restore (x1 : Int) (M : Mem) : Option (Int × Mem) :=
  cx2 (f_X11_restore x1 M) (fun e M1 => (if e = 2 then some (1, M1) else (if e = 1 then some (2, M1) else none))) (fun r M1 => some (0, M1))
noncomputable def L_0 (p1 p2 p3 p4 : Int) (M : Mem) : Option Mem :=
  cl2 (f_L_setLayout 157 p1 p2 p3 M) (fun r_1 M_2 => cl2 (f_X12_setLayout p1 p2 p3 M_2) (fun r_3 M_4 => cl1 (f_X12_thrown  M_4) (fun r_5 => (if w32 r_5 = w32 r_1 then (if w32 r_1 = 0 then (if w32 (l_cmp (M_4 157 0) (w32 r_3)) = 0 then some M_4 else none) else some M_4) else none))))
noncomputable def L_1 (p1 p2 p3 p4 : Int) (M : Mem) : Option Mem :=
  cl1 (f_X11_aisleCount  M) (fun r_1 => cl2 (f_X12_aisleCount  M) (fun r_3 M_4 => (if w32 r_1 = w32 r_3 then some M_4 else none)))
noncomputable def L_2 (p1 p2 p3 p4 : Int) (M : Mem) : Option Mem :=
  cl2 (f_L_addItem 157 p1 p2 p3 p4 M) (fun r_1 M_2 => cl2 (f_X12_addItem p1 p2 p3 p4 M_2) (fun r_3 M_4 => cl1 (f_X12_thrown  M_4) (fun r_5 => (if w32 r_5 = w32 r_1 then (if w32 r_1 = 0 then (if w32 (l_cmp (M_4 157 0) (w32 r_3)) = 0 then some M_4 else none) else some M_4) else none))))
noncomputable def L_3 (p1 p2 p3 p4 : Int) (M : Mem) : Option Mem :=
  cl1 (f_X11_itemCount  M) (fun r_1 => cl2 (f_X12_itemCount  M) (fun r_3 M_4 => (if w32 r_1 = w32 r_3 then some M_4 else none)))
noncomputable def L_4 (p1 p2 p3 p4 : Int) (M : Mem) : Option Mem :=
  cl2 (f_L_stock 157 p1 M) (fun r_1 M_2 => cl2 (f_X12_stock p1 M_2) (fun r_3 M_4 => cl1 (f_X12_thrown  M_4) (fun r_5 => (if w32 r_5 = w32 r_1 then (if w32 r_1 = 0 then (if w32 (l_cmp (M_4 157 0) (w32 r_3)) = 0 then some M_4 else none) else some M_4) else none))))
noncomputable def L_5 (p1 p2 p3 p4 : Int) (M : Mem) : Option Mem :=
  cl2 (f_L_restock 157 p1 p2 M) (fun r_1 M_2 => cl2 (f_X12_restock p1 p2 M_2) (fun r_3 M_4 => cl1 (f_X12_thrown  M_4) (fun r_5 => (if w32 r_5 = w32 r_1 then (if w32 r_1 = 0 then (if w32 (l_cmp (M_4 157 0) (w32 r_3)) = 0 then some M_4 else none) else some M_4) else none))))
noncomputable def L_6 (p1 p2 p3 p4 : Int) (M : Mem) : Option Mem :=
  cl2 (f_L_addOrder 157 p1 M) (fun r_1 M_2 => cl2 (f_X12_addOrder p1 M_2) (fun r_3 M_4 => cl1 (f_X12_thrown  M_4) (fun r_5 => (if w32 r_5 = w32 r_1 then (if w32 r_1 = 0 then (if w32 (l_cmp (M_4 157 0) (w32 r_3)) = 0 then some M_4 else none) else some M_4) else none))))
noncomputable def L_7 (p1 p2 p3 p4 : Int) (M : Mem) : Option Mem :=
  cl2 (f_L_addLine 157 p1 p2 p3 M) (fun r_1 M_2 => cl2 (f_X12_addLine p1 p2 p3 M_2) (fun r_3 M_4 => cl1 (f_X12_thrown  M_4) (fun r_5 => (if w32 r_5 = w32 r_1 then (if w32 r_1 = 0 then (if w32 (l_cmp (M_4 157 0) (w32 r_3)) = 0 then some M_4 else none) else some M_4) else none))))
noncomputable def L_8 (p1 p2 p3 p4 : Int) (M : Mem) : Option Mem :=
  cl1 (f_X11_orderCount  M) (fun r_1 => cl2 (f_X12_orderCount  M) (fun r_3 M_4 => (if w32 r_1 = w32 r_3 then some M_4 else none)))
noncomputable def L_9 (p1 p2 p3 p4 : Int) (M : Mem) : Option Mem :=
  cl2 (f_L_orderState 157 p1 M) (fun r_1 M_2 => cl2 (f_X12_orderState p1 M_2) (fun r_3 M_4 => cl1 (f_X12_thrown  M_4) (fun r_5 => (if w32 r_5 = w32 r_1 then (if w32 r_1 = 0 then (if w32 (l_cmp (M_4 157 0) (w32 r_3)) = 0 then some M_4 else none) else some M_4) else none))))
noncomputable def L_10 (p1 p2 p3 p4 : Int) (M : Mem) : Option Mem :=
  cl2 (f_L_lineCount 157 p1 M) (fun r_1 M_2 => cl2 (f_X12_lineCount p1 M_2) (fun r_3 M_4 => cl1 (f_X12_thrown  M_4) (fun r_5 => (if w32 r_5 = w32 r_1 then (if w32 r_1 = 0 then (if w32 (l_cmp (M_4 157 0) (w32 r_3)) = 0 then some M_4 else none) else some M_4) else none))))
noncomputable def L_11 (p1 p2 p3 p4 : Int) (M : Mem) : Option Mem :=
  cl2 (f_L_due 157 p1 M) (fun r_1 M_2 => cl2 (f_X12_due p1 M_2) (fun r_3 M_4 => cl1 (f_X12_thrown  M_4) (fun r_5 => (if w32 r_5 = w32 r_1 then (if w32 r_1 = 0 then (if w32 (l_cmp (M_4 157 0) (w32 r_3)) = 0 then some M_4 else none) else some M_4) else none))))
noncomputable def L_12 (p1 p2 p3 p4 : Int) (M : Mem) : Option Mem :=
  cl2 (f_L_setDue 157 p1 p2 M) (fun r_1 M_2 => cl2 (f_X12_setDue p1 p2 M_2) (fun r_3 M_4 => cl1 (f_X12_thrown  M_4) (fun r_5 => (if w32 r_5 = w32 r_1 then (if w32 r_1 = 0 then (if w32 (l_cmp (M_4 157 0) (w32 r_3)) = 0 then some M_4 else none) else some M_4) else none))))
noncomputable def L_13 (p1 p2 p3 p4 : Int) (M : Mem) : Option Mem :=
  cl2 (f_L_orderWeight 157 p1 M) (fun r_1 M_2 => cl2 (f_X12_orderWeight p1 M_2) (fun r_3 M_4 => cl1 (f_X12_thrown  M_4) (fun r_5 => (if w32 r_5 = w32 r_1 then (if w32 r_1 = 0 then (if w32 (l_cmp (M_4 157 0) (w32 r_3)) = 0 then some M_4 else none) else some M_4) else none))))
noncomputable def L_14 (p1 p2 p3 p4 : Int) (M : Mem) : Option Mem :=
  cl2 (f_L_orderAisles 157 p1 M) (fun r_1 M_2 => cl2 (f_X12_orderAisles p1 M_2) (fun r_3 M_4 => cl1 (f_X12_thrown  M_4) (fun r_5 => (if w32 r_5 = w32 r_1 then (if w32 r_1 = 0 then (if w32 (l_cmp (M_4 157 0) (w32 r_3)) = 0 then some M_4 else none) else some M_4) else none))))
noncomputable def L_15 (p1 p2 p3 p4 : Int) (M : Mem) : Option Mem :=
  cl2 (f_L_cancel 157 p1 M) (fun r_1 M_2 => cl2 (f_X12_cancel p1 M_2) (fun r_3 M_4 => cl1 (f_X12_thrown  M_4) (fun r_5 => (if w32 r_5 = w32 r_1 then (if w32 r_1 = 0 then (if w32 (l_cmp (M_4 157 0) (w32 r_3)) = 0 then some M_4 else none) else some M_4) else none))))
noncomputable def L_16 (p1 p2 p3 p4 : Int) (M : Mem) : Option Mem :=
  cl2 (f_L_makeBatches 157 p1 p2 p3 M) (fun r_1 M_2 => cl2 (f_X12_makeBatches p1 p2 p3 M_2) (fun r_3 M_4 => cl1 (f_X12_thrown  M_4) (fun r_5 => (if w32 r_5 = w32 r_1 then (if w32 r_1 = 0 then (if w32 (l_cmp (M_4 157 0) (w32 r_3)) = 0 then some M_4 else none) else some M_4) else none))))
noncomputable def L_17 (p1 p2 p3 p4 : Int) (M : Mem) : Option Mem :=
  cl2 (f_L_addBatch 157 p1 M) (fun r_1 M_2 => cl2 (f_X12_addBatch p1 M_2) (fun r_3 M_4 => cl1 (f_X12_thrown  M_4) (fun r_5 => (if w32 r_5 = w32 r_1 then (if w32 r_1 = 0 then (if w32 (l_cmp (M_4 157 0) (w32 r_3)) = 0 then some M_4 else none) else some M_4) else none))))
noncomputable def L_18 (p1 p2 p3 p4 : Int) (M : Mem) : Option Mem :=
  cl2 (f_L_dissolve 157 p1 M) (fun r_1 M_2 => cl2 (f_X12_dissolve p1 M_2) (fun r_3 M_4 => cl1 (f_X12_thrown  M_4) (fun r_5 => (if w32 r_5 = w32 r_1 then (if w32 r_1 = 0 then (if w32 (l_cmp (M_4 157 0) (w32 r_3)) = 0 then some M_4 else none) else some M_4) else none))))
noncomputable def L_19 (p1 p2 p3 p4 : Int) (M : Mem) : Option Mem :=
  cl1 (f_X11_batchCount  M) (fun r_1 => cl2 (f_X12_batchCount  M) (fun r_3 M_4 => (if w32 r_1 = w32 r_3 then some M_4 else none)))
noncomputable def L_20 (p1 p2 p3 p4 : Int) (M : Mem) : Option Mem :=
  cl2 (f_L_batchOrders 157 p1 M) (fun r_1 M_2 => cl2 (f_X12_batchOrders p1 M_2) (fun r_3 M_4 => cl1 (f_X12_thrown  M_4) (fun r_5 => (if w32 r_5 = w32 r_1 then (if w32 r_1 = 0 then (if w32 (l_cmp (M_4 157 0) (w32 r_3)) = 0 then some M_4 else none) else some M_4) else none))))
noncomputable def L_21 (p1 p2 p3 p4 : Int) (M : Mem) : Option Mem :=
  cl2 (f_L_batchWeight 157 p1 M) (fun r_1 M_2 => cl2 (f_X12_batchWeight p1 M_2) (fun r_3 M_4 => cl1 (f_X12_thrown  M_4) (fun r_5 => (if w32 r_5 = w32 r_1 then (if w32 r_1 = 0 then (if w32 (l_cmp (M_4 157 0) (w32 r_3)) = 0 then some M_4 else none) else some M_4) else none))))
noncomputable def L_22 (p1 p2 p3 p4 : Int) (M : Mem) : Option Mem :=
  cl2 (f_L_improve 157 p1 p2 M) (fun r_1 M_2 => cl2 (f_X12_improve p1 p2 M_2) (fun r_3 M_4 => cl1 (f_X12_thrown  M_4) (fun r_5 => (if w32 r_5 = w32 r_1 then (if w32 r_1 = 0 then (if w32 (l_cmp (M_4 157 0) (w32 r_3)) = 0 then some M_4 else none) else some M_4) else none))))
noncomputable def L_23 (p1 p2 p3 p4 : Int) (M : Mem) : Option Mem :=
  cl2 (f_L_sortBatches 157 p1 M) (fun r_1 M_2 => cl2 (f_X12_sortBatches p1 M_2) (fun r_3 M_4 => cl1 (f_X12_thrown  M_4) (fun r_5 => (if w32 r_5 = w32 r_1 then (if w32 r_1 = 0 then (if w32 (l_cmp (M_4 157 0) (w32 r_3)) = 0 then some M_4 else none) else some M_4) else none))))
noncomputable def L_24 (p1 p2 p3 p4 : Int) (M : Mem) : Option Mem :=
  cl2 (f_L_setPolicy 157 p1 M) (fun r_1 M_2 => cl2 (f_X12_setPolicy p1 M_2) (fun r_3 M_4 => cl1 (f_X12_thrown  M_4) (fun r_5 => (if w32 r_5 = w32 r_1 then (if w32 r_1 = 0 then (if w32 (l_cmp (M_4 157 0) (w32 r_3)) = 0 then some M_4 else none) else some M_4) else none))))
noncomputable def L_25 (p1 p2 p3 p4 : Int) (M : Mem) : Option Mem :=
  cl2 (f_L_setZones 157 p1 p2 M) (fun r_1 M_2 => cl2 (f_X12_setZones p1 p2 M_2) (fun r_3 M_4 => cl1 (f_X12_thrown  M_4) (fun r_5 => (if w32 r_5 = w32 r_1 then (if w32 r_1 = 0 then (if w32 (l_cmp (M_4 157 0) (w32 r_3)) = 0 then some M_4 else none) else some M_4) else none))))
noncomputable def L_26 (p1 p2 p3 p4 : Int) (M : Mem) : Option Mem :=
  cl2 (f_L_zoneOf 157 p1 M) (fun r_1 M_2 => cl2 (f_X12_zoneOf p1 M_2) (fun r_3 M_4 => cl1 (f_X12_thrown  M_4) (fun r_5 => (if w32 r_5 = w32 r_1 then (if w32 r_1 = 0 then (if w32 (l_cmp (M_4 157 0) (w32 r_3)) = 0 then some M_4 else none) else some M_4) else none))))
noncomputable def L_27 (p1 p2 p3 p4 : Int) (M : Mem) : Option Mem :=
  cl2 (f_L_setBuffer 157 p1 p2 M) (fun r_1 M_2 => cl2 (f_X12_setBuffer p1 p2 M_2) (fun r_3 M_4 => cl1 (f_X12_thrown  M_4) (fun r_5 => (if w32 r_5 = w32 r_1 then (if w32 r_1 = 0 then (if w32 (l_cmp (M_4 157 0) (w32 r_3)) = 0 then some M_4 else none) else some M_4) else none))))
noncomputable def L_28 (p1 p2 p3 p4 : Int) (M : Mem) : Option Mem :=
  cl2 (f_L_setTimes 157 p1 p2 M) (fun r_1 M_2 => cl2 (f_X12_setTimes p1 p2 M_2) (fun r_3 M_4 => cl1 (f_X12_thrown  M_4) (fun r_5 => (if w32 r_5 = w32 r_1 then (if w32 r_1 = 0 then (if w32 (l_cmp (M_4 157 0) (w32 r_3)) = 0 then some M_4 else none) else some M_4) else none))))
noncomputable def L_29 (p1 p2 p3 p4 : Int) (M : Mem) : Option Mem :=
  cl2 (f_L_routeLength 157 p1 p2 p3 M) (fun r_1 M_2 => cl2 (f_X12_routeLength p1 p2 p3 M_2) (fun r_3 M_4 => cl1 (f_X12_thrown  M_4) (fun r_5 => (if w32 r_5 = w32 r_1 then (if w32 r_1 = 0 then (if w32 (l_cmp (M_4 157 0) (w32 r_3)) = 0 then some M_4 else none) else some M_4) else none))))
noncomputable def L_30 (p1 p2 p3 p4 : Int) (M : Mem) : Option Mem :=
  cl2 (f_L_batchRoute 157 p1 M) (fun r_1 M_2 => cl2 (f_X12_batchRoute p1 M_2) (fun r_3 M_4 => cl1 (f_X12_thrown  M_4) (fun r_5 => (if w32 r_5 = w32 r_1 then (if w32 r_1 = 0 then (if w32 (l_cmp (M_4 157 0) (w32 r_3)) = 0 then some M_4 else none) else some M_4) else none))))
noncomputable def L_31 (p1 p2 p3 p4 : Int) (M : Mem) : Option Mem :=
  cl2 (f_L_bestPolicy 157 p1 M) (fun r_1 M_2 => cl2 (f_X12_bestPolicy p1 M_2) (fun r_3 M_4 => cl1 (f_X12_thrown  M_4) (fun r_5 => (if w32 r_5 = w32 r_1 then (if w32 r_1 = 0 then (if w32 (l_cmp (M_4 157 0) (w32 r_3)) = 0 then some M_4 else none) else some M_4) else none))))
noncomputable def L_32 (p1 p2 p3 p4 : Int) (M : Mem) : Option Mem :=
  cl2 (f_L_stopCount 157 p1 p2 M) (fun r_1 M_2 => cl2 (f_X12_stopCount p1 p2 M_2) (fun r_3 M_4 => cl1 (f_X12_thrown  M_4) (fun r_5 => (if w32 r_5 = w32 r_1 then (if w32 r_1 = 0 then (if w32 (l_cmp (M_4 157 0) (w32 r_3)) = 0 then some M_4 else none) else some M_4) else none))))
noncomputable def L_33 (p1 p2 p3 p4 : Int) (M : Mem) : Option Mem :=
  cl2 (f_L_stopItem 157 p1 p2 p3 M) (fun r_1 M_2 => cl2 (f_X12_stopItem p1 p2 p3 M_2) (fun r_3 M_4 => cl1 (f_X12_thrown  M_4) (fun r_5 => (if w32 r_5 = w32 r_1 then (if w32 r_1 = 0 then (if w32 (l_cmp (M_4 157 0) (w32 r_3)) = 0 then some M_4 else none) else some M_4) else none))))
noncomputable def L_34 (p1 p2 p3 p4 : Int) (M : Mem) : Option Mem :=
  cl2 (f_X11_savedDistance  M) (fun r_1 M_2 => cl2 (f_X12_savedDistance  M_2) (fun r_3 M_4 => (if w32 r_1 = w32 r_3 then some M_4 else none)))
noncomputable def L_35 (p1 p2 p3 p4 : Int) (M : Mem) : Option Mem :=
  cl2 (f_L_workTime 157 p1 p2 M) (fun r_1 M_2 => cl2 (f_X12_workTime p1 p2 M_2) (fun r_3 M_4 => cl1 (f_X12_thrown  M_4) (fun r_5 => (if w32 r_5 = w32 r_1 then (if w32 r_1 = 0 then (if w32 (l_cmp (M_4 157 0) (w32 r_3)) = 0 then some M_4 else none) else some M_4) else none))))
noncomputable def L_36 (p1 p2 p3 p4 : Int) (M : Mem) : Option Mem :=
  cl2 (f_L_startTime 157 p1 p2 M) (fun r_1 M_2 => cl2 (f_X12_startTime p1 p2 M_2) (fun r_3 M_4 => cl1 (f_X12_thrown  M_4) (fun r_5 => (if w32 r_5 = w32 r_1 then (if w32 r_1 = 0 then (if w32 (l_cmp (M_4 157 0) (w32 r_3)) = 0 then some M_4 else none) else some M_4) else none))))
noncomputable def L_37 (p1 p2 p3 p4 : Int) (M : Mem) : Option Mem :=
  cl2 (f_L_leaveTime 157 p1 p2 M) (fun r_1 M_2 => cl2 (f_X12_leaveTime p1 p2 M_2) (fun r_3 M_4 => cl1 (f_X12_thrown  M_4) (fun r_5 => (if w32 r_5 = w32 r_1 then (if w32 r_1 = 0 then (if w32 (l_cmp (M_4 157 0) (w32 r_3)) = 0 then some M_4 else none) else some M_4) else none))))
noncomputable def L_38 (p1 p2 p3 p4 : Int) (M : Mem) : Option Mem :=
  cl2 (f_L_blockedTime 157 p1 M) (fun r_1 M_2 => cl2 (f_X12_blockedTime p1 M_2) (fun r_3 M_4 => cl1 (f_X12_thrown  M_4) (fun r_5 => (if w32 r_5 = w32 r_1 then (if w32 r_1 = 0 then (if w32 (l_cmp (M_4 157 0) (w32 r_3)) = 0 then some M_4 else none) else some M_4) else none))))
noncomputable def L_39 (p1 p2 p3 p4 : Int) (M : Mem) : Option Mem :=
  cl2 (f_X11_makespan  M) (fun r_1 M_2 => cl2 (f_X12_makespan  M_2) (fun r_3 M_4 => (if w32 r_1 = w32 r_3 then some M_4 else none)))
noncomputable def L_40 (p1 p2 p3 p4 : Int) (M : Mem) : Option Mem :=
  cl2 (f_L_lateness 157 p1 M) (fun r_1 M_2 => cl2 (f_X12_lateness p1 M_2) (fun r_3 M_4 => cl1 (f_X12_thrown  M_4) (fun r_5 => (if w32 r_5 = w32 r_1 then (if w32 r_1 = 0 then (if w32 (l_cmp (M_4 157 0) (w32 r_3)) = 0 then some M_4 else none) else some M_4) else none))))
noncomputable def L_41 (p1 p2 p3 p4 : Int) (M : Mem) : Option Mem :=
  cl2 (f_X11_lateOrders  M) (fun r_1 M_2 => cl2 (f_X12_lateOrders  M_2) (fun r_3 M_4 => (if w32 r_1 = w32 r_3 then some M_4 else none)))
noncomputable def L_42 (p1 p2 p3 p4 : Int) (M : Mem) : Option Mem :=
  cl2 (f_X11_totalTardiness  M) (fun r_1 M_2 => cl2 (f_X12_totalTardiness  M_2) (fun r_3 M_4 => (if w32 r_1 = w32 r_3 then some M_4 else none)))
noncomputable def L_43 (p1 p2 p3 p4 : Int) (M : Mem) : Option Mem :=
  cl2 (f_X11_meanTardinessNumerator  M) (fun r_1 M_2 => cl2 (f_X12_meanTardinessNumerator  M_2) (fun r_3 M_4 => (if w32 r_1 = w32 r_3 then some M_4 else none)))
noncomputable def L_44 (p1 p2 p3 p4 : Int) (M : Mem) : Option Mem :=
  cl2 (f_X11_meanTardinessDenominator  M) (fun r_1 M_2 => cl2 (f_X12_meanTardinessDenominator  M_2) (fun r_3 M_4 => (if w32 r_1 = w32 r_3 then some M_4 else none)))
noncomputable def L_45 (p1 p2 p3 p4 : Int) (M : Mem) : Option Mem :=
  cl2 (f_L_pickBatch 157  M) (fun r_1 M_2 => cl2 (f_X12_pickBatch  M_2) (fun r_3 M_4 => cl1 (f_X12_thrown  M_4) (fun r_5 => (if w32 r_5 = w32 r_1 then (if w32 r_1 = 0 then (if w32 (l_cmp (M_4 157 0) (w32 r_3)) = 0 then some M_4 else none) else some M_4) else none))))
noncomputable def L_46 (p1 p2 p3 p4 : Int) (M : Mem) : Option Mem :=
  cl2 (f_L_pickedUnits 157 p1 p2 M) (fun r_1 M_2 => cl2 (f_X12_pickedUnits p1 p2 M_2) (fun r_3 M_4 => cl1 (f_X12_thrown  M_4) (fun r_5 => (if w32 r_5 = w32 r_1 then (if w32 r_1 = 0 then (if w32 (l_cmp (M_4 157 0) (w32 r_3)) = 0 then some M_4 else none) else some M_4) else none))))
noncomputable def L_47 (p1 p2 p3 p4 : Int) (M : Mem) : Option Mem :=
  cl2 (f_L_shortUnits 157 p1 p2 M) (fun r_1 M_2 => cl2 (f_X12_shortUnits p1 p2 M_2) (fun r_3 M_4 => cl1 (f_X12_thrown  M_4) (fun r_5 => (if w32 r_5 = w32 r_1 then (if w32 r_1 = 0 then (if w32 (l_cmp (M_4 157 0) (w32 r_3)) = 0 then some M_4 else none) else some M_4) else none))))
noncomputable def L_48 (p1 p2 p3 p4 : Int) (M : Mem) : Option Mem :=
  cl1 (f_X11_totalOrdered  M) (fun r_1 => cl2 (f_X12_totalOrdered  M) (fun r_3 M_4 => (if w32 r_1 = w32 r_3 then some M_4 else none)))
noncomputable def L_49 (p1 p2 p3 p4 : Int) (M : Mem) : Option Mem :=
  cl1 (f_X11_totalPicked  M) (fun r_1 => cl2 (f_X12_totalPicked  M) (fun r_3 M_4 => (if w32 r_1 = w32 r_3 then some M_4 else none)))
noncomputable def L_50 (p1 p2 p3 p4 : Int) (M : Mem) : Option Mem :=
  cl2 (f_L_reorder 157 p1 p2 M) (fun r_1 M_2 => cl2 (f_X12_reorder p1 p2 M_2) (fun r_3 M_4 => cl1 (f_X12_thrown  M_4) (fun r_5 => (if w32 r_5 = w32 r_1 then (if w32 r_1 = 0 then (if w32 (l_cmp (M_4 157 0) (w32 r_3)) = 0 then some M_4 else none) else some M_4) else none))))
noncomputable def L_51 (p1 p2 p3 p4 : Int) (M : Mem) : Option Mem :=
  cl2 (f_L_appendText 157 p1 M) (fun r_1 M_2 => cl2 (f_X12_appendText p1 M_2) (fun r_3 M_4 => cl1 (f_X12_thrown  M_4) (fun r_5 => (if w32 r_5 = w32 r_1 then (if w32 r_1 = 0 then (if w32 (l_cmp (M_4 157 0) (w32 r_3)) = 0 then some M_4 else none) else some M_4) else none))))
noncomputable def L_52 (p1 p2 p3 p4 : Int) (M : Mem) : Option Mem :=
  cl2 (f_L_truncateText 157 p1 M) (fun r_1 M_2 => cl2 (f_X12_truncateText p1 M_2) (fun r_3 M_4 => cl1 (f_X12_thrown  M_4) (fun r_5 => (if w32 r_5 = w32 r_1 then (if w32 r_1 = 0 then (if w32 (l_cmp (M_4 157 0) (w32 r_3)) = 0 then some M_4 else none) else some M_4) else none))))
noncomputable def L_53 (p1 p2 p3 p4 : Int) (M : Mem) : Option Mem :=
  cl2 (f_X11_load  M) (fun r_1 M_2 => cl2 (f_X12_load  M_2) (fun r_3 M_4 => (if w32 r_1 = w32 r_3 then some M_4 else none)))
noncomputable def L_54 (p1 p2 p3 p4 : Int) (M : Mem) : Option Mem :=
  cl1 (f_X11_errorCode  M) (fun r_1 => cl2 (f_X12_errorCode  M) (fun r_3 M_4 => (if w32 r_1 = w32 r_3 then some M_4 else none)))
noncomputable def L_55 (p1 p2 p3 p4 : Int) (M : Mem) : Option Mem :=
  cl1 (f_X11_errorPosition  M) (fun r_1 => cl2 (f_X12_errorPosition  M) (fun r_3 M_4 => (if w32 r_1 = w32 r_3 then some M_4 else none)))
noncomputable def L_57 (p1 p2 p3 p4 : Int) (M : Mem) : Option Mem :=
  cl2 (f_L_restore p1 M) (fun r_1 M_2 => cl1 (f_X12_restore p1 M_2) (fun M_4 => cl1 (f_X12_thrown  M_4) (fun r_5 => (if w32 r_5 = w32 r_1 then some M_4 else none))))
def mj (M Ms : Mem) (Ls : List Nat) : Mem := fun b => if b ∈ Ls then Ms b else M b
def mW : Mem := (upd2 (upd2 (upd2 (upd2 (upd2 (upd2 (upd2 (upd2 (upd2 (upd2 (upd2 (upd2 (upd2 (upd2 (upd2 (upd2 (upd2 (upd2 (upd2 (upd2 (upd2 (upd2 (upd2 (upd2 (upd2 (upd2 (upd2 (upd2 (upd2 (upd2 (upd2 (upd2 (upd2 (upd2 (upd2 (upd2 (upd2 (upd2 (upd2 (upd2 (upd2 (upd2 (upd2 (upd2 (upd2 (upd2 (upd2 (upd2 (upd2 (upd2 (upd2 (upd2 (upd2 (upd2 (upd2 (upd2 (upd2 (upd2 (upd2 (upd2 (upd2 (upd2 (upd2 (upd2 (upd2 (upd2 (upd2 (upd2 (upd2 (upd2 (upd2 (upd2 (upd2 (upd2 (mj (upd2 (fun _ _ => 0) 139 29 (-1)) (fun _ _ => 0) [156]) 156 0 (i_y 104)) 156 1 (i_y 97)) 156 2 (i_y 108)) 156 3 (i_y 108)) 156 4 (i_y 32)) 156 5 (i_y 105)) 156 6 (i_y 116)) 156 7 (i_y 101)) 156 8 (i_y 109)) 156 9 (i_y 32)) 156 10 (i_y 111)) 156 11 (i_y 114)) 156 12 (i_y 100)) 156 13 (i_y 101)) 156 14 (i_y 114)) 156 15 (i_y 32)) 156 16 (i_y 108)) 156 17 (i_y 105)) 156 18 (i_y 110)) 156 19 (i_y 101)) 156 20 (i_y 32)) 156 21 (i_y 122)) 156 22 (i_y 111)) 156 23 (i_y 110)) 156 24 (i_y 101)) 156 25 (i_y 115)) 156 26 (i_y 32)) 156 27 (i_y 98)) 156 28 (i_y 117)) 156 29 (i_y 102)) 156 30 (i_y 102)) 156 31 (i_y 101)) 156 32 (i_y 114)) 156 33 (i_y 32)) 156 34 (i_y 116)) 156 35 (i_y 105)) 156 36 (i_y 109)) 156 37 (i_y 101)) 156 38 (i_y 115)) 156 39 (i_y 32)) 156 40 (i_y 112)) 156 41 (i_y 111)) 156 42 (i_y 108)) 156 43 (i_y 105)) 156 44 (i_y 99)) 156 45 (i_y 121)) 156 46 (i_y 32)) 156 47 (i_y 114)) 156 48 (i_y 101)) 156 49 (i_y 116)) 156 50 (i_y 117)) 156 51 (i_y 114)) 156 52 (i_y 110)) 156 53 (i_y 32)) 156 54 (i_y 115)) 156 55 (i_y 115)) 156 56 (i_y 104)) 156 57 (i_y 97)) 156 58 (i_y 112)) 156 59 (i_y 101)) 156 60 (i_y 32)) 156 61 (i_y 103)) 156 62 (i_y 97)) 156 63 (i_y 112)) 156 64 (i_y 32)) 156 65 (i_y 99)) 156 66 (i_y 111)) 156 67 (i_y 109)) 156 68 (i_y 98)) 156 69 (i_y 105)) 156 70 (i_y 110)) 156 71 (i_y 101)) 156 72 (i_y 100)) 156 73 (i_y 32))
/-- the cells of a saved hall -/
def blkL (j : Nat) : List Nat := if j = 0 then [162, 163, 161, 165, 166, 167, 168, 164, 170, 171, 172, 173, 174, 175, 169, 177, 176, 160] else [180, 181, 179, 183, 184, 185, 186, 182, 188, 189, 190, 191, 192, 193, 187, 195, 194, 178]
noncomputable def f_X11_save (x1 : Int) (M : Mem) : Option ((Nat ⊕ Unit) × Mem) :=
  cx1 (f_X11_needArgument x1 0 1 M) (fun e_3 => some (.inl e_3, M)) (fun r_1 => gi x1 2 (if M 37 (ix x1) = 0 then cl1 (f_X3_reset (161 + 18 * ix x1) (fun _ _ => 0)) (fun Mn => cl1 (f_X1_copyFrom (160 + 18 * ix x1) 1 (upd2 (mj M Mn (blkL (ix x1))) 37 (ix x1) 1)) (fun M_6 => some (.inr (), M_6))) else cl1 (f_X1_copyFrom (160 + 18 * ix x1) 1 M) (fun M_6 => some (.inr (), M_6))))
noncomputable def f_L_save (x1 : Int) (M : Mem) : Option (Int × Mem) :=
  cx2 (f_X11_save x1 M) (fun e M1 => (if e = 2 then some (1, M1) else none)) (fun r M1 => some (0, M1))
noncomputable def L_56 (p1 p2 p3 p4 : Int) (M : Mem) : Option Mem :=
  cl2 (f_L_save p1 M) (fun r_1 M_2 => cl1 (f_X12_save p1 M_2) (fun M_4 => cl1 (f_X12_thrown  M_4) (fun r_5 => (if w32 r_5 = w32 r_1 then some M_4 else none))))
noncomputable def LT : List (Int → Int → Int → Int → Mem → Option Mem) := [L_0, L_1, L_2, L_3, L_4, L_5, L_6, L_7, L_8, L_9, L_10, L_11, L_12, L_13, L_14, L_15, L_16, L_17, L_18, L_19, L_20, L_21, L_22, L_23, L_24, L_25, L_26, L_27, L_28, L_29, L_30, L_31, L_32, L_33, L_34, L_35, L_36, L_37, L_38, L_39, L_40, L_41, L_42, L_43, L_44, L_45, L_46, L_47, L_48, L_49, L_50, L_51, L_52, L_53, L_54, L_55, L_56, L_57]
noncomputable def Lc (c : Nat) : Int → Int → Int → Int → Mem → Option Mem := LT.getD c (fun _ _ _ _ M => some M)
def I32 (v : Int) : Prop := -2147483648 ≤ v ∧ v < 2147483648
theorem w32_ok {v : Int} (h : I32 v) : w32 v = v := by
  obtain ⟨h1, h2⟩ := h
  unfold w32
  exact Int32.toInt_ofInt_of_le (by omega) (by omega)
/-- what the pure part owes: from every memory of the invariant every case comes to such a memory -/
def Owed (Inv : Mem → Prop) : Prop := ∀ M : Mem, Inv M → ∀ c : Nat, c < 58 → ∀ p1 p2 p3 p4 : Int, I32 p1 → I32 p2 → I32 p3 → I32 p4 → ∃ M' : Mem, Lc c p1 p2 p3 p4 M = some M' ∧ Inv M' ∧ (c ≠ 56 → M' 37 = M 37) ∧
  (c = 56 → ((∃ M1, f_X11_save p1 M = some (.inr (), M1)) → M 37 (ix p1) = 0 → M' 37 = fun j => if j = ix p1 then 1 else M 37 j) ∧ ((∃ M1, f_X11_save p1 M = some (.inr (), M1)) → ¬ M 37 (ix p1) = 0 → M' 37 = M 37) ∧ ((∀ M1, f_X11_save p1 M ≠ some (.inr (), M1)) → M' 37 = M 37))
def idsP : List Nat := [3, 4, 2, 6, 7, 8, 9, 5, 11, 12, 13, 14, 15, 16, 10, 18, 17, 1, 21, 22, 20, 24, 25, 26, 27, 23, 29, 30, 31, 32, 33, 34, 28, 36, 35, 19, 37, 39, 38, 41, 42, 43, 44, 45, 46, 47, 48, 40, 50, 51, 52, 53, 54, 55, 56, 57, 58, 59, 60, 61, 62, 63, 64, 65, 66, 67, 68, 69, 70, 71, 72, 73, 74, 75, 76, 78, 79, 80, 81, 82, 83, 84, 85, 77, 49, 88, 89, 90, 91, 92, 93, 94, 95, 87, 96, 86, 99, 100, 101, 102, 103, 104, 105, 106, 107, 108, 109, 110, 111, 112, 113, 114, 115, 116, 117, 118, 119, 120, 121, 122, 123, 124, 125, 127, 128, 129, 130, 131, 132, 133, 134, 126, 98, 135, 136, 137, 138, 97, 0]
def idsM : List Nat := [140, 141, 142, 143, 144, 145, 146, 147, 148, 149, 150, 151, 152, 153, 154, 155, 156, 139]
def mP (Mr1 Mr19 : Mem) : Mem := (mj (mj (mj (mj (mj (mj (mj (mj (fun _ _ => 0) Mr1 [3, 4, 2, 6, 7, 8, 9, 5, 11, 12, 13, 14, 15, 16, 10, 18, 17, 1]) Mr19 [21, 22, 20, 24, 25, 26, 27, 23, 29, 30, 31, 32, 33, 34, 28, 36, 35, 19]) (fun _ _ => 0) [37]) (upd2 (fun _ _ => 0) 38 3 (-1)) [39, 38]) (fun _ _ => 0) [41, 42, 43, 44, 45, 46, 47, 48, 40]) (fun _ _ => 0) [50, 51, 52, 53, 54, 55, 56, 57, 58, 59, 60, 61, 62, 63, 64, 65, 66, 67, 68, 69, 70, 71, 72, 73, 74, 75, 76, 78, 79, 80, 81, 82, 83, 84, 85, 77, 49]) (fun _ _ => 0) [88, 89, 90, 91, 92, 93, 94, 95, 87, 96, 86]) (fun _ _ => 0) [99, 100, 101, 102, 103, 104, 105, 106, 107, 108, 109, 110, 111, 112, 113, 114, 115, 116, 117, 118, 119, 120, 121, 122, 123, 124, 125, 127, 128, 129, 130, 131, 132, 133, 134, 126, 98, 135, 136, 137, 138, 97])
/-- the memory at the head of the loop, for the first time -/
def m0 (Mr1 Mr19 Mr139 : Mem) : Mem := mj (mj (mj (fun _ _ => 0) (mP Mr1 Mr19) idsP) Mr139 idsM) (fun _ _ => 0) [157]
def Owe0 (Inv : Mem → Prop) : Prop := ∃ Mr1 Mr19 Mr139 : Mem, f_X3_reset 2 (fun _ _ => 0) = some Mr1 ∧ f_X3_reset 20 (fun _ _ => 0) = some Mr19 ∧ f_X12_begins mW = some Mr139 ∧ Inv (m0 Mr1 Mr19 Mr139)
