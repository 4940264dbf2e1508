-- ===== what the start gives =====
def tmS (i : Nat) : Term := match strT[i]? with
  | some q => .string q.1 q.2.1
  | none => .int 0
theorem eq_val {args : Array Value} {s : State} {X : Term} {a : Int32} (h : (Cond.eq X (.int a)).before args s = true) : X.eval args s none [] s = some (.int a) := by
  have he : (Term.int a).eval args s none [] s = some (.int a) := rfl
  simp only [Cond.before, Cond.holds, Cond.value] at h
  rw [he] at h
  cases hx : X.eval args s none [] s with
  | none => rw [hx] at h; simp at h
  | some v =>
    rw [hx] at h
    cases v <;> simp at h
    rw [h]
theorem ne_refs {args : Array Value} {s : State} {x y : Term} {a c : Nat} (hx : x.eval args s none [] s = some (.ref a)) (hy : y.eval args s none [] s = some (.ref c)) (h : a ≠ c) : (Cond.not (Cond.eq x y)).before args s = true := by
  simp [Cond.before, Cond.holds, Cond.value, hx, hy, h]
theorem fld_ev {args : Array Value} {s : State} {x y : Term} (h : x.eval args s none [] s = y.eval args s none [] s) (C n d : String) : (Term.field x C n d).eval args s none [] s = (Term.field y C n d).eval args s none [] s := by
  simp only [Term.eval, h]
theorem len_ev {args : Array Value} {s : State} {x y : Term} (h : x.eval args s none [] s = y.eval args s none [] s) : (Term.length x).eval args s none [] s = (Term.length y).eval args s none [] s := by
  simp only [Term.eval, h]
theorem elem_ev {args : Array Value} {s : State} {x y z : Term} (h : x.eval args s none [] s = y.eval args s none [] s) : (Term.elem x z).eval args s none [] s = (Term.elem y z).eval args s none [] s := by
  simp only [Term.eval, h]
section START
variable {s : State} {b : Nat}
theorem st_fc (hts : ∀ w ∈ lw_tbl, w.before #[Value.ref b] s = true) {C : String} {n : Nat} (h : Cond.instantiable C n ∈ lw_tbl) : ∃ c, s.vm.findClass C = some c := by
  obtain ⟨cC, kC, hfc, -⟩ := Cond.instantiable_spec (hts _ h)
  exact ⟨cC, hfc⟩
theorem st_arr (hts : ∀ w ∈ lw_tbl, w.before #[Value.ref b] s = true) {ty : FieldType} (hn : ∀ k, ty ≠ .object k) (h : Cond.arrayClass ty ∈ lw_tbl) : ∃ c, s.vm.findClass ("[" ++ ty.toString) = some c ∧ ArrOfT s c ty := by
  obtain ⟨c, k, comp, h1, h2, h3⟩ := Cond.arrayClass_spec (hts _ h)
  exact ⟨c, h1, fun N z => ⟨(fun k h => by cases h), k, h2, comp, h3⟩⟩
theorem st_R (hts : ∀ w ∈ lw_tbl, w.before #[Value.ref b] s = true) : ∀ (k : Nat) (q : String × Nat × String), strT[k]? = some q → ∃ a, (Term.string q.1 q.2.1).eval #[Value.ref b] s none [] s = some (.ref a) := by
  intro k q hq
  have h1 : Cond.stringRef q.1 q.2.1 q.2.2 ∈ lw_tbl := (by decide +kernel : ∀ q ∈ strT, Cond.stringRef q.1 q.2.1 q.2.2 ∈ lw_tbl) q (List.mem_of_getElem? hq)
  have h2 : q.1 = "PickHall" ∨ q.1 = "PickHall$SetupReader" := (by decide +kernel : ∀ q ∈ strT, q.1 = "PickHall" ∨ q.1 = "PickHall$SetupReader") q (List.mem_of_getElem? hq)
  obtain ⟨cur, hcur⟩ : ∃ c, s.vm.findClass q.1 = some c := by
    rcases h2 with e | e
    · rw [e]; exact st_fc hts (n := 8) (by decide +kernel)
    · rw [e]; exact st_fc hts (n := 8) (by decide +kernel)
  obtain ⟨k', cf, i, a, -, -, -, -, -, hev⟩ := Cond.stringRef_spec hcur (hts _ h1)
  exact ⟨a, hev⟩
theorem st_S (hts : ∀ w ∈ lw_tbl, w.before #[Value.ref b] s = true) (hgv : (Jvm.Cond.and given_1 narrow_1).before #[Value.ref b] s = true) : ∃ adK adV : Nat → Nat, vk_S 12 lenS bytS adK adV (fun q => s.heap.size ≤ q) s s.heap ∧ ∀ i : Nat, i < 12 → (tmS i).eval #[Value.ref b] s none [] s = some (.ref (adK i)) := by
  have hs := flat_of_before _ hgv
  refine vk_Sof (tm := tmS) (by decide +kernel) (fun i hi => hs _ ?_) (fun i hi => hs _ ?_) (fun i hi => hs _ ?_) (fun i hi => hs _ ?_) (fun i hi j hj => hs _ ?_) (fun i j hi hj hne => ?_) (fun a ha => Nat.not_le.mpr ha)
  · revert i; decide +kernel
  · revert i; decide +kernel
  · revert i; decide +kernel
  · revert i; decide +kernel
  · revert j; revert i; decide +kernel
  · obtain ⟨q, hq⟩ : ∃ q, strT[i]? = some q := ⟨_, List.getElem?_eq_getElem (Nat.lt_of_lt_of_le hi (by decide +kernel))⟩
    obtain ⟨q', hq'⟩ : ∃ q, strT[j]? = some q := ⟨_, List.getElem?_eq_getElem (Nat.lt_of_lt_of_le hj (by decide +kernel))⟩
    obtain ⟨a, ha⟩ := st_R hts i q hq
    obtain ⟨c, hc⟩ := st_R hts j q' hq'
    have hta : (tmS i).eval #[Value.ref b] s none [] s = some (.ref a) := by unfold tmS; rw [hq]; exact ha
    have htc : (tmS j).eval #[Value.ref b] s none [] s = some (.ref c) := by unfold tmS; rw [hq']; exact hc
    refine Or.inl (ne_refs hta htc (fun e => hne ?_))
    have e0 := fld_ev (hta.trans ((by rw [e] : some (Value.ref a) = some (.ref c)).trans htc.symm)) "java/lang/String" "value" "[B"
    have h1 : ∀ i, i < 12 → Cond.eq (.length (.field (tmS i) "java/lang/String" "value" "[B")) (.int (Int32.ofNat (lenS.getD i 0))) ∈ flatC (Jvm.Cond.and given_1 narrow_1) := by decide +kernel
    have h2 : ∀ i, i < 12 → ∀ j, j < lenS.getD i 0 → Cond.eq (.elem (.field (tmS i) "java/lang/String" "value" "[B") (.int (Int32.ofNat j))) (.int ((bytS.getD i []).getD j 0)) ∈ flatC (Jvm.Cond.and given_1 narrow_1) := by decide +kernel
    have g1 : Int32.ofNat (lenS.getD i 0) = Int32.ofNat (lenS.getD j 0) := by
      have x1 := eq_val (hs _ (h1 i hi))
      have x2 := eq_val (hs _ (h1 j hj))
      have x3 := x1.symm.trans ((len_ev e0).trans x2)
      exact Value.int.inj (Option.some.inj x3)
    have g0 : lenS.getD i 0 = lenS.getD j 0 := (by decide +kernel : ∀ i, i < 12 → ∀ j, j < 12 → Int32.ofNat (lenS.getD i 0) = Int32.ofNat (lenS.getD j 0) → lenS.getD i 0 = lenS.getD j 0) i hi j hj g1
    have g2 : ∀ p, p < lenS.getD i 0 → (bytS.getD i []).getD p 0 = (bytS.getD j []).getD p 0 := by
      intro p hp
      have x1 := eq_val (hs _ (h2 i hi p hp))
      have x2 := eq_val (hs _ (h2 j hj p (g0 ▸ hp)))
      have x3 := x1.symm.trans ((elem_ev e0).trans x2)
      exact Value.int.inj (Option.some.inj x3)
    exact (by decide +kernel : ∀ i, i < 12 → ∀ j, j < 12 → lenS.getD i 0 = lenS.getD j 0 → (∀ p, p < lenS.getD i 0 → (bytS.getD i []).getD p 0 = (bytS.getD j []).getD p 0) → i = j) i hi j hj g0 g2
theorem st_kn (hts : ∀ w ∈ lw_tbl, w.before #[Value.ref b] s = true) : ∀ (c : Nat), ∃ z : ClassId × (Nat → Nat), ∀ q : vw_C, vwCl[c]? = some q → u_Kn s q.1 q.2.1 q.2.2 z.1 z.2 := by
  have key : ∀ {C : String} {T : u_T} {N : Nat}, (∀ w ∈ u_ws C T N, w ∈ WS) → Cond.instantiable C N ∈ lw_tbl → ∃ z : ClassId × (Nat → Nat), ∀ q : vw_C, some (C, T, N) = some q → u_Kn s q.1 q.2.1 q.2.2 z.1 z.2 := by
    intro C T N h1 h2
    obtain ⟨cC, iS, h⟩ := u_known (C := C) (T := T) (N := N) (n := N) hts (fun w hw => (List.mem_filter.mp (h1 w hw)).1) (hts _ h2)
    exact ⟨(cC, iS), fun q hq => by cases hq; exact h⟩
  intro c
  match c with
  | 0 => exact key inws_0 (by decide +kernel)
  | 1 => exact key inws_1 (by decide +kernel)
  | 2 => exact key inws_2 (by decide +kernel)
  | 3 => exact key inws_3 (by decide +kernel)
  | 4 => exact key inws_4 (by decide +kernel)
  | 5 => exact key inws_5 (by decide +kernel)
  | 6 => exact key inws_6 (by decide +kernel)
  | 7 => exact key inws_7 (by decide +kernel)
  | 8 => exact key inws_8 (by decide +kernel)
  | 9 => exact key inws_9 (by decide +kernel)
  | 10 => exact key inws_10 (by decide +kernel)
  | 11 => exact key inws_11 (by decide +kernel)
  | c + 12 => exact ⟨(0, fun _ => 0), fun q hq => by simp at hq⟩
theorem st_ty (hts : ∀ w ∈ lw_tbl, w.before #[Value.ref b] s = true) : ∀ (k : Nat), ∃ c : ClassId, ∀ ty : FieldType, ([.int, .byte, .boolean, .long, .array .int, .object "PickHall$Hall"] : List FieldType)[k]? = some ty → ArrOfT s c ty ∧ va_RA s c ty := by
  have key : ∀ {ty : FieldType}, (∀ C, ty ≠ .object C) → Cond.arrayClass ty ∈ lw_tbl → ∃ c, ArrOfT s c ty ∧ s.vm.findClass ("[" ++ ty.toString) = some c := by
    intro ty h0 h1
    obtain ⟨c, a, b⟩ := st_arr hts h0 h1
    exact ⟨c, b, a⟩
  intro k
  match k with
  | 0 => obtain ⟨c, a, b⟩ := key (ty := .int) (fun _ h => by cases h) (by decide +kernel); exact ⟨c, fun ty h => by cases h; exact ⟨a, b⟩⟩
  | 1 => obtain ⟨c, a, b⟩ := key (ty := .byte) (fun _ h => by cases h) (by decide +kernel); exact ⟨c, fun ty h => by cases h; exact ⟨a, b⟩⟩
  | 2 => obtain ⟨c, a, b⟩ := key (ty := .boolean) (fun _ h => by cases h) (by decide +kernel); exact ⟨c, fun ty h => by cases h; exact ⟨a, b⟩⟩
  | 3 => obtain ⟨c, a, b⟩ := key (ty := .long) (fun _ h => by cases h) (by decide +kernel); exact ⟨c, fun ty h => by cases h; exact ⟨a, b⟩⟩
  | 4 =>
    obtain ⟨comp, c, k, h1, h2, h3, h4, h5⟩ := arrayOver_specB (hts (.arrayOver (.array .int)) (by decide +kernel))
    exact ⟨c, fun ty h => by cases h; exact ⟨fun N z => ⟨(fun k h => by cases h), k, h3, comp, h4⟩, h5⟩⟩
  | 5 =>
    obtain ⟨comp, c, k, h1, h2, h3, h4, h5⟩ := Cond.arrayOver_spec (hts (.arrayOver (.object "PickHall$Hall")) (by decide +kernel))
    exact ⟨c, fun ty h => by cases h; exact ⟨fun N z => ⟨(fun k h => by cases h), k, h3, comp, h4⟩, k, comp, h3, h4, h1, h5⟩⟩
  | k + 6 => exact ⟨0, fun ty h => by simp at h⟩
theorem st_TF (hts : ∀ w ∈ lw_tbl, w.before #[Value.ref b] s = true) (hgv : (Jvm.Cond.and given_1 narrow_1).before #[Value.ref b] s = true) : TF s := by
  have hs := flat_of_before _ hgv
  refine ⟨fun E hE => va_tabs rfl rfl (hts _ ((by decide +kernel : ∀ E ∈ excT, Cond.castable E E ∈ lw_tbl) E hE)), fun q hq => va_tabs rfl rfl (hts _ ((by decide +kernel : ∀ q ∈ nestT, Cond.methodLinkNest q.1 q.2.1 ⟨q.2.2, "<init>", "()V"⟩ "PickHall" ∈ lw_tbl) q hq)), fun C hC => va_tabs rfl rfl (hts _ ((by decide +kernel : ∀ C ∈ declT, Cond.declares ⟨C, "<init>", "(Ljava/lang/String;)V"⟩ ∈ lw_tbl) C hC)), fun E hE F hF hne => va_Nc.of (hs _ ((by decide +kernel : ∀ E ∈ excT, ∀ F ∈ excT, E ≠ F → Cond.not (.castable E F) ∈ flatC (Jvm.Cond.and given_1 narrow_1)) E hE F hF hne)), va_AO.of (hts _ (by decide +kernel)), hts (.arrayOver (.array .int)) (by decide +kernel)⟩
theorem st_all (hts : ∀ w ∈ lw_tbl, w.before #[Value.ref b] s = true) (hgv : (Jvm.Cond.and given_1 narrow_1).before #[Value.ref b] s = true) : ∃ T : Nat × va_G × (Nat → ClassId) × (Nat → Nat) × (Nat → Nat), T.1 = s.heap.size ∧ ∀ (ad : Nat → Nat) (L : List Nat), va_K (gDz (ad, L, T)) vwCl (tys (ad, L, T)) s ∧ STf (ad, L, T) s := by
  have hs := flat_of_before _ hgv
  obtain ⟨D, hD⟩ := Classical.axiomOfChoice (st_kn hts)
  obtain ⟨cy, hcy⟩ := Classical.axiomOfChoice (st_ty hts)
  obtain ⟨adK, adV, hS, hE⟩ := st_S hts hgv
  have hR0 : ∀ k : Nat, ∃ a : Nat, ∀ q : String × Nat × String, strT[k]? = some q → (Term.string q.1 q.2.1).eval #[Value.ref b] s none [] s = some (.ref a) := by
    intro k
    cases hq : strT[k]? with
    | none => exact ⟨0, fun q h => by cases h⟩
    | some q =>
      obtain ⟨a, ha⟩ := st_R hts k q hq
      exact ⟨a, fun q' h => by cases h; exact ha⟩
  obtain ⟨aR, hR⟩ := Classical.axiomOfChoice hR0
  have hRK : ∀ k, k < 12 → aR k = adK k := by
    intro k hk
    obtain ⟨q, hq⟩ : ∃ q, strT[k]? = some q := ⟨_, List.getElem?_eq_getElem (Nat.lt_of_lt_of_le hk (by decide +kernel))⟩
    have h1 := hR k q hq
    have h2 := hE k hk
    unfold tmS at h2
    rw [hq] at h2
    have h3 : some (Value.ref (aR k)) = some (Value.ref (adK k)) := h1.symm.trans h2
    exact Value.ref.inj (Option.some.inj h3)
  have hS' : vk_S 12 lenS bytS aR adV (fun q => s.heap.size ≤ q) s s.heap := by
    refine ⟨fun i hi => by rw [hRK i hi]; exact hS.1 i hi, fun i j hi hj e => hS.2 i j hi hj (by rw [← hRK i hi, ← hRK j hj]; exact e)⟩
  have hA : ∀ a : Nat, a < s.heap.size → ¬ (fun q : Nat => s.heap.size ≤ q) a := fun a ha => Nat.not_le.mpr ha
  refine ⟨(s.heap.size, (fun c => (D c).1, fun c => (D c).2), cy, aR, adV), rfl, fun ad L => ⟨⟨fun c q hq => hD c q hq, fun k q hk => ?_⟩, ?_⟩⟩
  · have e : ([.int, .byte, .boolean, .long, .array .int, .object "PickHall$Hall"] : List FieldType)[k]? = some q.2 ∧ q.1 = cy k := by
      match k, hk with
      | 0, hk => cases hk; exact ⟨rfl, rfl⟩
      | 1, hk => cases hk; exact ⟨rfl, rfl⟩
      | 2, hk => cases hk; exact ⟨rfl, rfl⟩
      | 3, hk => cases hk; exact ⟨rfl, rfl⟩
      | 4, hk => cases hk; exact ⟨rfl, rfl⟩
      | 5, hk => cases hk; exact ⟨rfl, rfl⟩
      | k + 6, hk => simp [tys] at hk
    rw [e.2]
    exact hcy k q.2 e.1
  · refine ⟨vx_Zqof (hts _ (by decide +kernel)) (hts _ (by decide +kernel)) (hs _ (by decide +kernel)) hA, vx_Zqof (hts _ (by decide +kernel)) (hts _ (by decide +kernel)) (hs _ (by decide +kernel)) hA, fun k q hq => vk_R.of (hts _ ((by decide +kernel : ∀ q ∈ strT, Cond.stringRef q.1 q.2.1 q.2.2 ∈ lw_tbl) q (List.mem_of_getElem? hq))) (hR k q hq), hS', ?_, va_Zqof (hts _ (by decide +kernel)) (hts _ (by decide +kernel)) (hs _ (by decide +kernel)) hA, st_TF hts hgv⟩
    have he : (Cond.eq (.static "java/lang/String" "COMPACT_STRINGS" "Z") (.int 1)).before #[Value.ref b] s = true := hs _ (by decide +kernel)
    exact va_Zof (hts _ (by decide +kernel)) (hts _ (by decide +kernel)) (eq_val he) hA
end START
