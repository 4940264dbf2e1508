-- ===== the law's loop =====
theorem w32_I32 (v : Int) : I32 (w32 v) := by
  unfold w32 I32
  have h1 := Int32.le_toInt (Int32.ofInt v)
  have h2 := Int32.toInt_lt (Int32.ofInt v)
  omega
/-- the law's world -/
def LI (G : Gx) (M : Mem) : Prop := SOK G ∧ at_ G 157 4 1 ∧ CL G M ∧ ∀ j, j < 2 → M 37 j = 0 → ∀ r ∈ gL G, r ∉ blkL j
theorem kd6 {i : Nat} (h : (kd i).1 = 6) : i = 37 := by
  rcases Nat.lt_or_ge i 196 with q | q
  · exact (by decide +kernel : ∀ i, i < 196 → (kd i).1 = 6 → i = 37) i q h
  · unfold kd at h
    rw [List.getD_eq_getElem?_getD, List.getElem?_eq_none (by exact q)] at h
    cases h
theorem refd_37 {M M' : Mem} (h : M' 37 = M 37) {i r : Nat} (hr : refd M' i r) : refd M i r := by
  rcases hr with q | q | ⟨q1, j, q2, q3⟩
  · exact Or.inl q
  · exact Or.inr (Or.inl q)
  · have e := kd6 q1
    subst e
    rw [h] at q2
    exact Or.inr (Or.inr ⟨q1, j, q2, q3⟩)
theorem LI_37 {G : Gx} {M M' : Mem} (h : M' 37 = M 37) (hI : LI G M) : LI G M' := ⟨hI.1, hI.2.1, fun i hi => ⟨(hI.2.2.1 i hi).1, fun r hr => (hI.2.2.1 i hi).2 r (refd_37 h hr)⟩, fun j hj hz => hI.2.2.2 j hj (by rw [← h]; exact hz)⟩
theorem LI_sv {G : Gx} {M : Mem} (hI : LI G M) : ∀ j : Nat, j < 2 → ¬ M 37 j = 0 → at_ G (160 + 18 * j) 11 0 := fun j hj hz =>
  ⟨(hI.2.2.1 37 (hI.1 37 (by decide))).2 _ (Or.inr (Or.inr ⟨by decide +kernel, j, hz, rfl⟩)), by rcases (show j = 0 ∨ j = 1 by omega) with rfl | rfl <;> decide +kernel⟩
theorem blk_in {j : Nat} (hj : j < 2) : 160 + 18 * j ∈ blkL j := by
  rcases (show j = 0 ∨ j = 1 by omega) with rfl | rfl <;> decide +kernel
theorem blk_dj {j j' : Nat} (hj : j < 2) (hj' : j' < 2) (h : j ≠ j') : ∀ r ∈ blkL j, r ∉ blkL j' := by
  rcases (show j = 0 ∨ j = 1 by omega) with rfl | rfl <;> rcases (show j' = 0 ∨ j' = 1 by omega) with rfl | rfl
  · exact absurd rfl h
  · decide +kernel
  · decide +kernel
  · exact absurd rfl h
theorem blk_CL {j : Nat} (hj : j < 2) {Gs : Gx} {Ms : Mem} (h : gL Gs = blkL j) : CL Gs Ms := by
  rcases (show j = 0 ∨ j = 1 by omega) with rfl | rfl
  · exact CL_of h (by decide +kernel) (no6 (by decide +kernel))
  · exact CL_of h (by decide +kernel) (no6 (by decide +kernel))
theorem LI_new {G G1 : Gx} {M M' : Mem} {j : Nat} (hj : j < 2) (hL : gL G1 = gL G ++ blkL j) (h : M' 37 = fun i => if i = j then 1 else M 37 i) (hI : LI G M) : LI G1 M' := by
  refine ⟨fun i hi => by rw [hL]; exact List.mem_append_left _ (hI.1 i hi), ⟨by rw [hL]; exact List.mem_append_left _ hI.2.1.1, hI.2.1.2⟩, fun i hi => ?_, fun j' hj' hz r hr => ?_⟩
  · rw [hL] at hi ⊢
    rcases List.mem_append.mp hi with q | q
    · refine ⟨(hI.2.2.1 i q).1, fun r hr => ?_⟩
      rcases hr with z | z | ⟨z1, j0, z2, z3⟩
      · exact List.mem_append_left _ ((hI.2.2.1 i q).2 r (Or.inl z))
      · exact List.mem_append_left _ ((hI.2.2.1 i q).2 r (Or.inr (Or.inl z)))
      · have e := kd6 z1
        subst e
        rw [h] at z2
        by_cases e : j0 = j
        · subst e
          rw [z3]
          exact List.mem_append_right _ (blk_in hj)
        · have z2' : ¬ M 37 j0 = 0 := by simpa [e] using z2
          exact List.mem_append_left _ ((hI.2.2.1 37 q).2 r (Or.inr (Or.inr ⟨z1, j0, z2', z3⟩)))
    · have hb := blk_CL hj (Gs := (gad G, blkL j, G.2.2)) (Ms := fun _ _ => 0) rfl i q
      refine ⟨hb.1, fun r hr => ?_⟩
      rcases hr with z | z | ⟨z1, -⟩
      · exact List.mem_append_right _ (hb.2 r (Or.inl z))
      · exact List.mem_append_right _ (hb.2 r (Or.inr (Or.inl z)))
      · have e := kd6 z1
        subst e
        exfalso
        rcases (show j = 0 ∨ j = 1 by omega) with rfl | rfl
        · exact absurd q (by decide +kernel)
        · exact absurd q (by decide +kernel)
  · rw [h] at hz
    have hne : j' ≠ j := by
      intro e
      subst e
      simp at hz
    have hz' : M 37 j' = 0 := by simpa [hne] using hz
    rw [hL] at hr
    rcases List.mem_append.mp hr with q | q
    · exact hI.2.2.2 j' hj' hz' r q
    · exact blk_dj hj hj' (fun e => hne e.symm) r q
theorem save_lt {p : Int} {M M1 : Mem} (h : f_X11_save p M = some (.inr (), M1)) : ix p < 2 := by
  unfold f_X11_save at h
  rcases cx1_of h with ⟨e_3, ee_3, h⟩ | ⟨r_1, er_1, h⟩
  · cases h
  · obtain ⟨b_4, h⟩ := gi_of h
    exact inb2 b_4
theorem and63 (a : Int) : ∃ c : Nat, w32 (i_and a 63) = (c : Int) ∧ c < 64 := by
  unfold i_and w32
  rw [Int32.ofInt_toInt]
  have hb : (Int32.ofInt a &&& Int32.ofInt 63).toBitVec.toNat ≤ 63 := by
    rw [Int32.toBitVec_and, BitVec.toNat_and]
    exact Nat.le_trans Nat.and_le_right (by decide)
  have ht : (Int32.ofInt a &&& Int32.ofInt 63).toInt = ((Int32.ofInt a &&& Int32.ofInt 63).toBitVec.toNat : Int) := by
    show (Int32.ofInt a &&& Int32.ofInt 63).toBitVec.toInt = _
    exact BitVec.toInt_eq_toNat_of_lt (by omega)
  exact ⟨_, ht, by omega⟩
theorem law_end {X : Cxt} {k n : Nat} {b : Nat} {ls : List (Option Value)} {M : Mem} (hX : Gd X RL cL_law 7 (some .boolean) 40) (hA : ∀ q, xA X q → (xs X).heap.size ≤ q) (hR : xR X = room_1) (ha : xa X = #[Value.ref b]) (hk : k ≤ 601024) (hn : n ≤ 7293034) : V X k n (lw_Z (xb X) #[Value.ref b] (xs X)) 3153 ls [] M := by
  refine x_iconst hX dL_law_3153 ?_
  intro H locs la hl hP hD hS
  refine va_forget (fun q hq => hA _ (hS.2.2 q hq)) ?_
  refine W.widen (k := 601024) (n := 7293034) hk hn ?_
  show W (xp X) (xl X) (xe X) (xR X) (xs X) (xm X) (xa X) (xb X) (xt X) (xc X) H [] 601024 7293034 _ (F0 (xm X) 3154 la [.int 1])
  rw [hR, ha]
  exact lw_ret hX.1 hX.2.1 hX.2.2.2.2.2.2.1 hX.2.2.2.2.2.1 dL_law_3154
theorem SX_G {A : Nat → Prop} {G G1 : Gx} {T : Program × Launch × Env × Room × State × MethodId × Array Value × List Frame × Method × Code} {b Lx : Nat} {sx : Nat → Int} (hx : SX (A, G, T) b Lx sx) (t1 : G1.2.2 = G.2.2) : SX (A, G1, T) b Lx sx := ⟨hx.1, hx.2.1, fun z => hx.2.2 (by have z' : gSz G1 ≤ b := z; rw [show gSz G1 = gSz G by unfold gSz; rw [t1]] at z'; exact z')⟩
set_option maxRecDepth 100000 in
set_option maxHeartbeats 4000000 in
theorem law_loop {Inv : Mem → Prop} (hSt : Owed Inv) {A : Nat → Prop} {T : Program × Launch × Env × Room × State × MethodId × Array Value × List Frame × Method × Code} {b Lx : Nat} {sx : Nat → Int} (hL : Lx ≤ 2560) (hsx : ∀ j, I32 (sx j)) (hA : ∀ q, A q ↔ (T.2.2.2.2.1).heap.size ≤ q) (hR : T.2.2.2.1 = room_1) (ha : T.2.2.2.2.2.2.1 = #[Value.ref b]) :
    ∀ (f : Nat) (G : Gx) (i k n : Nat) (M : Mem), Gd (A, G, T) RL cL_law 7 (some .boolean) 40 → LI G M → SX (A, G, T) b Lx sx → Inv M → i ≤ Lx → Lx ≤ i + 5 * f + 4 → k + 24 * f ≤ 601024 → n + 520 * f ≤ 7293034 → V (A, G, T) k n (lw_Z (xb (A, G, T)) #[Value.ref b] (xs (A, G, T))) 23 [some (.ref b), some (vr G 0), some (vr G 139), some (vr G 157), some (vi (i : Int)), none, none] [] M := by
  intro f
  induction f with
  | zero =>
    intro G i k n M hX hLI hx hInv hi hf hk hn
    refine x_iload hX dL_law_23 rfl ?_
    refine x_qload hX dL_law_25 rfl ?_
    refine x_slen hX hx dL_law_26 ?_
    refine x_iconst hX dL_law_27 ?_
    refine x_isub hX dL_law_28 ?_
    refine x_icmp_gt (tgt := 3153) hX dL_law_29 (by decide) (w32_ok ⟨by omega, by omega⟩) (w32_ok ⟨by omega, by omega⟩) (fun hc => law_end hX (fun q h => (hA q).mp h) hR ha (by omega) (by omega)) (fun hc => absurd hc (by omega))
  | succ f ih =>
    intro G i k n M hX hLI hx hInv hi hf hk0 hn0
    refine x_iload hX dL_law_23 rfl ?_
    refine x_qload hX dL_law_25 rfl ?_
    refine x_slen hX hx dL_law_26 ?_
    refine x_iconst hX dL_law_27 ?_
    refine x_isub hX dL_law_28 ?_
    refine x_icmp_gt (tgt := 3153) hX dL_law_29 (by decide) (w32_ok ⟨by omega, by omega⟩) (w32_ok ⟨by omega, by omega⟩) (fun hc => law_end hX (fun q h => (hA q).mp h) hR ha (by omega) (by omega)) (fun hc => ?_)
    have hib : ∀ d : Nat, d < 5 → inb ((i : Int) + d) Lx := fun d hd => by
      have : w32 ((i : Int) + d) = (i : Int) + d := w32_ok ⟨by omega, by omega⟩
      unfold inb
      rw [this]
      omega
    have b0 : inb (i : Int) Lx := by have := hib 0 (by decide); simpa using this
    have b1 : inb ((i : Int) + 1) Lx := hib 1 (by decide)
    have b2 : inb ((i : Int) + 2) Lx := hib 2 (by decide)
    have b3 : inb ((i : Int) + 3) Lx := hib 3 (by decide)
    have b4 : inb ((i : Int) + 4) Lx := hib 4 (by decide)
    have hk : k + 24 ≤ (xR (A, G, T)).cells ∧ n + 520 ≤ (xR (A, G, T)).slots := by
      rw [show xR (A, G, T) = room_1 from hR]
      exact ⟨by show k + 24 ≤ 601024; omega, by show n + 520 ≤ 7293034; omega⟩
    have hk5 : k + 5 ≤ (xR (A, G, T)).cells ∧ n + 30 ≤ (xR (A, G, T)).slots := ⟨by omega, by omega⟩
    have nxt : ∀ (G1 : Gx) (M' : Mem), Gd (A, G1, T) RL cL_law 7 (some .boolean) 40 → LI G1 M' → SX (A, G1, T) b Lx sx → Inv M' → V (A, G1, T) (k + 24) (n + 520) (lw_Z (xb (A, G1, T)) #[Value.ref b] (xs (A, G1, T))) 3147 [some (.ref b), some (vr G1 0), some (vr G1 139), some (vr G1 157), some (vi (i : Int)), none, none] [] M' := by
      intro G1 M' hY hI hx1 hInv'
      refine x_iinc (i := 4) (x := ((i + 5 : Nat) : Int)) (ls' := [some (.ref b), some (vr G1 0), some (vr G1 139), some (vr G1 157), some (vi ((i + 5 : Nat) : Int)), none, none]) hY dL_law_3147 rfl rfl (by omega) rfl ?_
      refine x_goto (tgt := 23) hY dL_law_3150 (by decide) ?_
      exact ih G1 (i + 5) (k + 24) (n + 520) M' hY hI hx1 hInv' (by omega) (by omega) (by omega) (by omega)
    refine x_qload hX dL_law_32 rfl ?_
    refine x_iload hX dL_law_33 rfl ?_
    refine x_sld hX hx dL_law_35 b0 rfl ?_
    refine x_bipush hX dL_law_36 bp_63 ?_
    refine x_iand hX dL_law_38 ?_
    obtain ⟨c, hcv, hlt⟩ := and63 (sx (ix (i : Int)))
    match c, hcv, hlt with
    | 0, hcv, _ =>
      obtain ⟨M', eL, hI', h37, -⟩ := hSt M hInv 0 (by decide) (sx (ix ((i : Int) + 1))) (sx (ix ((i : Int) + 2))) (sx (ix ((i : Int) + 3))) (sx (ix ((i : Int) + 4))) (hsx _) (hsx _) (hsx _) (hsx _)
      exact x_tsI (c := 0) (tgt := 284) hX dL_law_39 hcv (by decide) (by decide) rfl (by decide) (law_0 hX hLI.1 hLI.2.1 hx (i : Int) _ _ _ _ b1 b2 b3 b4 rfl rfl rfl rfl hk5 M M' eL (x_wid (by omega) (by omega) (nxt G M' hX (LI_37 (h37 (by decide)) hLI) hx hI')))
    | 1, hcv, _ =>
      obtain ⟨M', eL, hI', h37, -⟩ := hSt M hInv 1 (by decide) (sx (ix ((i : Int) + 1))) (sx (ix ((i : Int) + 2))) (sx (ix ((i : Int) + 3))) (sx (ix ((i : Int) + 4))) (hsx _) (hsx _) (hsx _) (hsx _)
      exact x_tsI (c := 1) (tgt := 364) hX dL_law_39 hcv (by decide) (by decide) rfl (by decide) (law_1 hX hLI.1 hLI.2.1 hx (i : Int) _ _ _ _ b1 b2 b3 b4 rfl rfl rfl rfl hk5 M M' eL (x_wid (by omega) (by omega) (nxt G M' hX (LI_37 (h37 (by decide)) hLI) hx hI')))
    | 2, hcv, _ =>
      obtain ⟨M', eL, hI', h37, -⟩ := hSt M hInv 2 (by decide) (sx (ix ((i : Int) + 1))) (sx (ix ((i : Int) + 2))) (sx (ix ((i : Int) + 3))) (sx (ix ((i : Int) + 4))) (hsx _) (hsx _) (hsx _) (hsx _)
      exact x_tsI (c := 2) (tgt := 377) hX dL_law_39 hcv (by decide) (by decide) rfl (by decide) (law_2 hX hLI.1 hLI.2.1 hx (i : Int) _ _ _ _ b1 b2 b3 b4 rfl rfl rfl rfl hk5 M M' eL (x_wid (by omega) (by omega) (nxt G M' hX (LI_37 (h37 (by decide)) hLI) hx hI')))
    | 3, hcv, _ =>
      obtain ⟨M', eL, hI', h37, -⟩ := hSt M hInv 3 (by decide) (sx (ix ((i : Int) + 1))) (sx (ix ((i : Int) + 2))) (sx (ix ((i : Int) + 3))) (sx (ix ((i : Int) + 4))) (hsx _) (hsx _) (hsx _) (hsx _)
      exact x_tsI (c := 3) (tgt := 469) hX dL_law_39 hcv (by decide) (by decide) rfl (by decide) (law_3 hX hLI.1 hLI.2.1 hx (i : Int) _ _ _ _ b1 b2 b3 b4 rfl rfl rfl rfl hk5 M M' eL (x_wid (by omega) (by omega) (nxt G M' hX (LI_37 (h37 (by decide)) hLI) hx hI')))
    | 4, hcv, _ =>
      obtain ⟨M', eL, hI', h37, -⟩ := hSt M hInv 4 (by decide) (sx (ix ((i : Int) + 1))) (sx (ix ((i : Int) + 2))) (sx (ix ((i : Int) + 3))) (sx (ix ((i : Int) + 4))) (hsx _) (hsx _) (hsx _) (hsx _)
      exact x_tsI (c := 4) (tgt := 482) hX dL_law_39 hcv (by decide) (by decide) rfl (by decide) (law_4 hX hLI.1 hLI.2.1 hx (i : Int) _ _ _ _ b1 b2 b3 b4 rfl rfl rfl rfl hk5 M M' eL (x_wid (by omega) (by omega) (nxt G M' hX (LI_37 (h37 (by decide)) hLI) hx hI')))
    | 5, hcv, _ =>
      obtain ⟨M', eL, hI', h37, -⟩ := hSt M hInv 5 (by decide) (sx (ix ((i : Int) + 1))) (sx (ix ((i : Int) + 2))) (sx (ix ((i : Int) + 3))) (sx (ix ((i : Int) + 4))) (hsx _) (hsx _) (hsx _) (hsx _)
      exact x_tsI (c := 5) (tgt := 538) hX dL_law_39 hcv (by decide) (by decide) rfl (by decide) (law_5 hX hLI.1 hLI.2.1 hx (i : Int) _ _ _ _ b1 b2 b3 b4 rfl rfl rfl rfl hk5 M M' eL (x_wid (by omega) (by omega) (nxt G M' hX (LI_37 (h37 (by decide)) hLI) hx hI')))
    | 6, hcv, _ =>
      obtain ⟨M', eL, hI', h37, -⟩ := hSt M hInv 6 (by decide) (sx (ix ((i : Int) + 1))) (sx (ix ((i : Int) + 2))) (sx (ix ((i : Int) + 3))) (sx (ix ((i : Int) + 4))) (hsx _) (hsx _) (hsx _) (hsx _)
      exact x_tsI (c := 6) (tgt := 606) hX dL_law_39 hcv (by decide) (by decide) rfl (by decide) (law_6 hX hLI.1 hLI.2.1 hx (i : Int) _ _ _ _ b1 b2 b3 b4 rfl rfl rfl rfl hk5 M M' eL (x_wid (by omega) (by omega) (nxt G M' hX (LI_37 (h37 (by decide)) hLI) hx hI')))
    | 7, hcv, _ =>
      obtain ⟨M', eL, hI', h37, -⟩ := hSt M hInv 7 (by decide) (sx (ix ((i : Int) + 1))) (sx (ix ((i : Int) + 2))) (sx (ix ((i : Int) + 3))) (sx (ix ((i : Int) + 4))) (hsx _) (hsx _) (hsx _) (hsx _)
      exact x_tsI (c := 7) (tgt := 662) hX dL_law_39 hcv (by decide) (by decide) rfl (by decide) (law_7 hX hLI.1 hLI.2.1 hx (i : Int) _ _ _ _ b1 b2 b3 b4 rfl rfl rfl rfl hk5 M M' eL (x_wid (by omega) (by omega) (nxt G M' hX (LI_37 (h37 (by decide)) hLI) hx hI')))
    | 8, hcv, _ =>
      obtain ⟨M', eL, hI', h37, -⟩ := hSt M hInv 8 (by decide) (sx (ix ((i : Int) + 1))) (sx (ix ((i : Int) + 2))) (sx (ix ((i : Int) + 3))) (sx (ix ((i : Int) + 4))) (hsx _) (hsx _) (hsx _) (hsx _)
      exact x_tsI (c := 8) (tgt := 742) hX dL_law_39 hcv (by decide) (by decide) rfl (by decide) (law_8 hX hLI.1 hLI.2.1 hx (i : Int) _ _ _ _ b1 b2 b3 b4 rfl rfl rfl rfl hk5 M M' eL (x_wid (by omega) (by omega) (nxt G M' hX (LI_37 (h37 (by decide)) hLI) hx hI')))
    | 9, hcv, _ =>
      obtain ⟨M', eL, hI', h37, -⟩ := hSt M hInv 9 (by decide) (sx (ix ((i : Int) + 1))) (sx (ix ((i : Int) + 2))) (sx (ix ((i : Int) + 3))) (sx (ix ((i : Int) + 4))) (hsx _) (hsx _) (hsx _) (hsx _)
      exact x_tsI (c := 9) (tgt := 755) hX dL_law_39 hcv (by decide) (by decide) rfl (by decide) (law_9 hX hLI.1 hLI.2.1 hx (i : Int) _ _ _ _ b1 b2 b3 b4 rfl rfl rfl rfl hk5 M M' eL (x_wid (by omega) (by omega) (nxt G M' hX (LI_37 (h37 (by decide)) hLI) hx hI')))
    | 10, hcv, _ =>
      obtain ⟨M', eL, hI', h37, -⟩ := hSt M hInv 10 (by decide) (sx (ix ((i : Int) + 1))) (sx (ix ((i : Int) + 2))) (sx (ix ((i : Int) + 3))) (sx (ix ((i : Int) + 4))) (hsx _) (hsx _) (hsx _) (hsx _)
      exact x_tsI (c := 10) (tgt := 811) hX dL_law_39 hcv (by decide) (by decide) rfl (by decide) (law_10 hX hLI.1 hLI.2.1 hx (i : Int) _ _ _ _ b1 b2 b3 b4 rfl rfl rfl rfl hk5 M M' eL (x_wid (by omega) (by omega) (nxt G M' hX (LI_37 (h37 (by decide)) hLI) hx hI')))
    | 11, hcv, _ =>
      obtain ⟨M', eL, hI', h37, -⟩ := hSt M hInv 11 (by decide) (sx (ix ((i : Int) + 1))) (sx (ix ((i : Int) + 2))) (sx (ix ((i : Int) + 3))) (sx (ix ((i : Int) + 4))) (hsx _) (hsx _) (hsx _) (hsx _)
      exact x_tsI (c := 11) (tgt := 867) hX dL_law_39 hcv (by decide) (by decide) rfl (by decide) (law_11 hX hLI.1 hLI.2.1 hx (i : Int) _ _ _ _ b1 b2 b3 b4 rfl rfl rfl rfl hk5 M M' eL (x_wid (by omega) (by omega) (nxt G M' hX (LI_37 (h37 (by decide)) hLI) hx hI')))
    | 12, hcv, _ =>
      obtain ⟨M', eL, hI', h37, -⟩ := hSt M hInv 12 (by decide) (sx (ix ((i : Int) + 1))) (sx (ix ((i : Int) + 2))) (sx (ix ((i : Int) + 3))) (sx (ix ((i : Int) + 4))) (hsx _) (hsx _) (hsx _) (hsx _)
      exact x_tsI (c := 12) (tgt := 923) hX dL_law_39 hcv (by decide) (by decide) rfl (by decide) (law_12 hX hLI.1 hLI.2.1 hx (i : Int) _ _ _ _ b1 b2 b3 b4 rfl rfl rfl rfl hk5 M M' eL (x_wid (by omega) (by omega) (nxt G M' hX (LI_37 (h37 (by decide)) hLI) hx hI')))
    | 13, hcv, _ =>
      obtain ⟨M', eL, hI', h37, -⟩ := hSt M hInv 13 (by decide) (sx (ix ((i : Int) + 1))) (sx (ix ((i : Int) + 2))) (sx (ix ((i : Int) + 3))) (sx (ix ((i : Int) + 4))) (hsx _) (hsx _) (hsx _) (hsx _)
      exact x_tsI (c := 13) (tgt := 991) hX dL_law_39 hcv (by decide) (by decide) rfl (by decide) (law_13 hX hLI.1 hLI.2.1 hx (i : Int) _ _ _ _ b1 b2 b3 b4 rfl rfl rfl rfl hk5 M M' eL (x_wid (by omega) (by omega) (nxt G M' hX (LI_37 (h37 (by decide)) hLI) hx hI')))
    | 14, hcv, _ =>
      obtain ⟨M', eL, hI', h37, -⟩ := hSt M hInv 14 (by decide) (sx (ix ((i : Int) + 1))) (sx (ix ((i : Int) + 2))) (sx (ix ((i : Int) + 3))) (sx (ix ((i : Int) + 4))) (hsx _) (hsx _) (hsx _) (hsx _)
      exact x_tsI (c := 14) (tgt := 1047) hX dL_law_39 hcv (by decide) (by decide) rfl (by decide) (law_14 hX hLI.1 hLI.2.1 hx (i : Int) _ _ _ _ b1 b2 b3 b4 rfl rfl rfl rfl hk5 M M' eL (x_wid (by omega) (by omega) (nxt G M' hX (LI_37 (h37 (by decide)) hLI) hx hI')))
    | 15, hcv, _ =>
      obtain ⟨M', eL, hI', h37, -⟩ := hSt M hInv 15 (by decide) (sx (ix ((i : Int) + 1))) (sx (ix ((i : Int) + 2))) (sx (ix ((i : Int) + 3))) (sx (ix ((i : Int) + 4))) (hsx _) (hsx _) (hsx _) (hsx _)
      exact x_tsI (c := 15) (tgt := 1103) hX dL_law_39 hcv (by decide) (by decide) rfl (by decide) (law_15 hX hLI.1 hLI.2.1 hx (i : Int) _ _ _ _ b1 b2 b3 b4 rfl rfl rfl rfl hk5 M M' eL (x_wid (by omega) (by omega) (nxt G M' hX (LI_37 (h37 (by decide)) hLI) hx hI')))
    | 16, hcv, _ =>
      obtain ⟨M', eL, hI', h37, -⟩ := hSt M hInv 16 (by decide) (sx (ix ((i : Int) + 1))) (sx (ix ((i : Int) + 2))) (sx (ix ((i : Int) + 3))) (sx (ix ((i : Int) + 4))) (hsx _) (hsx _) (hsx _) (hsx _)
      exact x_tsI (c := 16) (tgt := 1159) hX dL_law_39 hcv (by decide) (by decide) rfl (by decide) (law_16 hX hLI.1 hLI.2.1 hx (i : Int) _ _ _ _ b1 b2 b3 b4 rfl rfl rfl rfl hk5 M M' eL (x_wid (by omega) (by omega) (nxt G M' hX (LI_37 (h37 (by decide)) hLI) hx hI')))
    | 17, hcv, _ =>
      obtain ⟨M', eL, hI', h37, -⟩ := hSt M hInv 17 (by decide) (sx (ix ((i : Int) + 1))) (sx (ix ((i : Int) + 2))) (sx (ix ((i : Int) + 3))) (sx (ix ((i : Int) + 4))) (hsx _) (hsx _) (hsx _) (hsx _)
      exact x_tsI (c := 17) (tgt := 1239) hX dL_law_39 hcv (by decide) (by decide) rfl (by decide) (law_17 hX hLI.1 hLI.2.1 hx (i : Int) _ _ _ _ b1 b2 b3 b4 rfl rfl rfl rfl hk5 M M' eL (x_wid (by omega) (by omega) (nxt G M' hX (LI_37 (h37 (by decide)) hLI) hx hI')))
    | 18, hcv, _ =>
      obtain ⟨M', eL, hI', h37, -⟩ := hSt M hInv 18 (by decide) (sx (ix ((i : Int) + 1))) (sx (ix ((i : Int) + 2))) (sx (ix ((i : Int) + 3))) (sx (ix ((i : Int) + 4))) (hsx _) (hsx _) (hsx _) (hsx _)
      exact x_tsI (c := 18) (tgt := 1295) hX dL_law_39 hcv (by decide) (by decide) rfl (by decide) (law_18 hX hLI.1 hLI.2.1 hx (i : Int) _ _ _ _ b1 b2 b3 b4 rfl rfl rfl rfl hk5 M M' eL (x_wid (by omega) (by omega) (nxt G M' hX (LI_37 (h37 (by decide)) hLI) hx hI')))
    | 19, hcv, _ =>
      obtain ⟨M', eL, hI', h37, -⟩ := hSt M hInv 19 (by decide) (sx (ix ((i : Int) + 1))) (sx (ix ((i : Int) + 2))) (sx (ix ((i : Int) + 3))) (sx (ix ((i : Int) + 4))) (hsx _) (hsx _) (hsx _) (hsx _)
      exact x_tsI (c := 19) (tgt := 1351) hX dL_law_39 hcv (by decide) (by decide) rfl (by decide) (law_19 hX hLI.1 hLI.2.1 hx (i : Int) _ _ _ _ b1 b2 b3 b4 rfl rfl rfl rfl hk5 M M' eL (x_wid (by omega) (by omega) (nxt G M' hX (LI_37 (h37 (by decide)) hLI) hx hI')))
    | 20, hcv, _ =>
      obtain ⟨M', eL, hI', h37, -⟩ := hSt M hInv 20 (by decide) (sx (ix ((i : Int) + 1))) (sx (ix ((i : Int) + 2))) (sx (ix ((i : Int) + 3))) (sx (ix ((i : Int) + 4))) (hsx _) (hsx _) (hsx _) (hsx _)
      exact x_tsI (c := 20) (tgt := 1364) hX dL_law_39 hcv (by decide) (by decide) rfl (by decide) (law_20 hX hLI.1 hLI.2.1 hx (i : Int) _ _ _ _ b1 b2 b3 b4 rfl rfl rfl rfl hk5 M M' eL (x_wid (by omega) (by omega) (nxt G M' hX (LI_37 (h37 (by decide)) hLI) hx hI')))
    | 21, hcv, _ =>
      obtain ⟨M', eL, hI', h37, -⟩ := hSt M hInv 21 (by decide) (sx (ix ((i : Int) + 1))) (sx (ix ((i : Int) + 2))) (sx (ix ((i : Int) + 3))) (sx (ix ((i : Int) + 4))) (hsx _) (hsx _) (hsx _) (hsx _)
      exact x_tsI (c := 21) (tgt := 1420) hX dL_law_39 hcv (by decide) (by decide) rfl (by decide) (law_21 hX hLI.1 hLI.2.1 hx (i : Int) _ _ _ _ b1 b2 b3 b4 rfl rfl rfl rfl hk5 M M' eL (x_wid (by omega) (by omega) (nxt G M' hX (LI_37 (h37 (by decide)) hLI) hx hI')))
    | 22, hcv, _ =>
      obtain ⟨M', eL, hI', h37, -⟩ := hSt M hInv 22 (by decide) (sx (ix ((i : Int) + 1))) (sx (ix ((i : Int) + 2))) (sx (ix ((i : Int) + 3))) (sx (ix ((i : Int) + 4))) (hsx _) (hsx _) (hsx _) (hsx _)
      exact x_tsI (c := 22) (tgt := 1476) hX dL_law_39 hcv (by decide) (by decide) rfl (by decide) (law_22 hX hLI.1 hLI.2.1 hx (i : Int) _ _ _ _ b1 b2 b3 b4 rfl rfl rfl rfl hk5 M M' eL (x_wid (by omega) (by omega) (nxt G M' hX (LI_37 (h37 (by decide)) hLI) hx hI')))
    | 23, hcv, _ =>
      obtain ⟨M', eL, hI', h37, -⟩ := hSt M hInv 23 (by decide) (sx (ix ((i : Int) + 1))) (sx (ix ((i : Int) + 2))) (sx (ix ((i : Int) + 3))) (sx (ix ((i : Int) + 4))) (hsx _) (hsx _) (hsx _) (hsx _)
      exact x_tsI (c := 23) (tgt := 1544) hX dL_law_39 hcv (by decide) (by decide) rfl (by decide) (law_23 hX hLI.1 hLI.2.1 hx (i : Int) _ _ _ _ b1 b2 b3 b4 rfl rfl rfl rfl hk5 M M' eL (x_wid (by omega) (by omega) (nxt G M' hX (LI_37 (h37 (by decide)) hLI) hx hI')))
    | 24, hcv, _ =>
      obtain ⟨M', eL, hI', h37, -⟩ := hSt M hInv 24 (by decide) (sx (ix ((i : Int) + 1))) (sx (ix ((i : Int) + 2))) (sx (ix ((i : Int) + 3))) (sx (ix ((i : Int) + 4))) (hsx _) (hsx _) (hsx _) (hsx _)
      exact x_tsI (c := 24) (tgt := 1600) hX dL_law_39 hcv (by decide) (by decide) rfl (by decide) (law_24 hX hLI.1 hLI.2.1 hx (i : Int) _ _ _ _ b1 b2 b3 b4 rfl rfl rfl rfl hk5 M M' eL (x_wid (by omega) (by omega) (nxt G M' hX (LI_37 (h37 (by decide)) hLI) hx hI')))
    | 25, hcv, _ =>
      obtain ⟨M', eL, hI', h37, -⟩ := hSt M hInv 25 (by decide) (sx (ix ((i : Int) + 1))) (sx (ix ((i : Int) + 2))) (sx (ix ((i : Int) + 3))) (sx (ix ((i : Int) + 4))) (hsx _) (hsx _) (hsx _) (hsx _)
      exact x_tsI (c := 25) (tgt := 1656) hX dL_law_39 hcv (by decide) (by decide) rfl (by decide) (law_25 hX hLI.1 hLI.2.1 hx (i : Int) _ _ _ _ b1 b2 b3 b4 rfl rfl rfl rfl hk5 M M' eL (x_wid (by omega) (by omega) (nxt G M' hX (LI_37 (h37 (by decide)) hLI) hx hI')))
    | 26, hcv, _ =>
      obtain ⟨M', eL, hI', h37, -⟩ := hSt M hInv 26 (by decide) (sx (ix ((i : Int) + 1))) (sx (ix ((i : Int) + 2))) (sx (ix ((i : Int) + 3))) (sx (ix ((i : Int) + 4))) (hsx _) (hsx _) (hsx _) (hsx _)
      exact x_tsI (c := 26) (tgt := 1724) hX dL_law_39 hcv (by decide) (by decide) rfl (by decide) (law_26 hX hLI.1 hLI.2.1 hx (i : Int) _ _ _ _ b1 b2 b3 b4 rfl rfl rfl rfl hk5 M M' eL (x_wid (by omega) (by omega) (nxt G M' hX (LI_37 (h37 (by decide)) hLI) hx hI')))
    | 27, hcv, _ =>
      obtain ⟨M', eL, hI', h37, -⟩ := hSt M hInv 27 (by decide) (sx (ix ((i : Int) + 1))) (sx (ix ((i : Int) + 2))) (sx (ix ((i : Int) + 3))) (sx (ix ((i : Int) + 4))) (hsx _) (hsx _) (hsx _) (hsx _)
      exact x_tsI (c := 27) (tgt := 1780) hX dL_law_39 hcv (by decide) (by decide) rfl (by decide) (law_27 hX hLI.1 hLI.2.1 hx (i : Int) _ _ _ _ b1 b2 b3 b4 rfl rfl rfl rfl hk5 M M' eL (x_wid (by omega) (by omega) (nxt G M' hX (LI_37 (h37 (by decide)) hLI) hx hI')))
    | 28, hcv, _ =>
      obtain ⟨M', eL, hI', h37, -⟩ := hSt M hInv 28 (by decide) (sx (ix ((i : Int) + 1))) (sx (ix ((i : Int) + 2))) (sx (ix ((i : Int) + 3))) (sx (ix ((i : Int) + 4))) (hsx _) (hsx _) (hsx _) (hsx _)
      exact x_tsI (c := 28) (tgt := 1848) hX dL_law_39 hcv (by decide) (by decide) rfl (by decide) (law_28 hX hLI.1 hLI.2.1 hx (i : Int) _ _ _ _ b1 b2 b3 b4 rfl rfl rfl rfl hk5 M M' eL (x_wid (by omega) (by omega) (nxt G M' hX (LI_37 (h37 (by decide)) hLI) hx hI')))
    | 29, hcv, _ =>
      obtain ⟨M', eL, hI', h37, -⟩ := hSt M hInv 29 (by decide) (sx (ix ((i : Int) + 1))) (sx (ix ((i : Int) + 2))) (sx (ix ((i : Int) + 3))) (sx (ix ((i : Int) + 4))) (hsx _) (hsx _) (hsx _) (hsx _)
      exact x_tsI (c := 29) (tgt := 1916) hX dL_law_39 hcv (by decide) (by decide) rfl (by decide) (law_29 hX hLI.1 hLI.2.1 hx (i : Int) _ _ _ _ b1 b2 b3 b4 rfl rfl rfl rfl hk5 M M' eL (x_wid (by omega) (by omega) (nxt G M' hX (LI_37 (h37 (by decide)) hLI) hx hI')))
    | 30, hcv, _ =>
      obtain ⟨M', eL, hI', h37, -⟩ := hSt M hInv 30 (by decide) (sx (ix ((i : Int) + 1))) (sx (ix ((i : Int) + 2))) (sx (ix ((i : Int) + 3))) (sx (ix ((i : Int) + 4))) (hsx _) (hsx _) (hsx _) (hsx _)
      exact x_tsI (c := 30) (tgt := 1996) hX dL_law_39 hcv (by decide) (by decide) rfl (by decide) (law_30 hX hLI.1 hLI.2.1 hx (i : Int) _ _ _ _ b1 b2 b3 b4 rfl rfl rfl rfl hk5 M M' eL (x_wid (by omega) (by omega) (nxt G M' hX (LI_37 (h37 (by decide)) hLI) hx hI')))
    | 31, hcv, _ =>
      obtain ⟨M', eL, hI', h37, -⟩ := hSt M hInv 31 (by decide) (sx (ix ((i : Int) + 1))) (sx (ix ((i : Int) + 2))) (sx (ix ((i : Int) + 3))) (sx (ix ((i : Int) + 4))) (hsx _) (hsx _) (hsx _) (hsx _)
      exact x_tsI (c := 31) (tgt := 2052) hX dL_law_39 hcv (by decide) (by decide) rfl (by decide) (law_31 hX hLI.1 hLI.2.1 hx (i : Int) _ _ _ _ b1 b2 b3 b4 rfl rfl rfl rfl hk5 M M' eL (x_wid (by omega) (by omega) (nxt G M' hX (LI_37 (h37 (by decide)) hLI) hx hI')))
    | 32, hcv, _ =>
      obtain ⟨M', eL, hI', h37, -⟩ := hSt M hInv 32 (by decide) (sx (ix ((i : Int) + 1))) (sx (ix ((i : Int) + 2))) (sx (ix ((i : Int) + 3))) (sx (ix ((i : Int) + 4))) (hsx _) (hsx _) (hsx _) (hsx _)
      exact x_tsI (c := 32) (tgt := 2108) hX dL_law_39 hcv (by decide) (by decide) rfl (by decide) (law_32 hX hLI.1 hLI.2.1 hx (i : Int) _ _ _ _ b1 b2 b3 b4 rfl rfl rfl rfl hk5 M M' eL (x_wid (by omega) (by omega) (nxt G M' hX (LI_37 (h37 (by decide)) hLI) hx hI')))
    | 33, hcv, _ =>
      obtain ⟨M', eL, hI', h37, -⟩ := hSt M hInv 33 (by decide) (sx (ix ((i : Int) + 1))) (sx (ix ((i : Int) + 2))) (sx (ix ((i : Int) + 3))) (sx (ix ((i : Int) + 4))) (hsx _) (hsx _) (hsx _) (hsx _)
      exact x_tsI (c := 33) (tgt := 2176) hX dL_law_39 hcv (by decide) (by decide) rfl (by decide) (law_33 hX hLI.1 hLI.2.1 hx (i : Int) _ _ _ _ b1 b2 b3 b4 rfl rfl rfl rfl hk5 M M' eL (x_wid (by omega) (by omega) (nxt G M' hX (LI_37 (h37 (by decide)) hLI) hx hI')))
    | 34, hcv, _ =>
      obtain ⟨M', eL, hI', h37, -⟩ := hSt M hInv 34 (by decide) (sx (ix ((i : Int) + 1))) (sx (ix ((i : Int) + 2))) (sx (ix ((i : Int) + 3))) (sx (ix ((i : Int) + 4))) (hsx _) (hsx _) (hsx _) (hsx _)
      exact x_tsI (c := 34) (tgt := 2256) hX dL_law_39 hcv (by decide) (by decide) rfl (by decide) (law_34 hX hLI.1 hLI.2.1 hx (i : Int) _ _ _ _ b1 b2 b3 b4 rfl rfl rfl rfl hk5 M M' eL (x_wid (by omega) (by omega) (nxt G M' hX (LI_37 (h37 (by decide)) hLI) hx hI')))
    | 35, hcv, _ =>
      obtain ⟨M', eL, hI', h37, -⟩ := hSt M hInv 35 (by decide) (sx (ix ((i : Int) + 1))) (sx (ix ((i : Int) + 2))) (sx (ix ((i : Int) + 3))) (sx (ix ((i : Int) + 4))) (hsx _) (hsx _) (hsx _) (hsx _)
      exact x_tsI (c := 35) (tgt := 2269) hX dL_law_39 hcv (by decide) (by decide) rfl (by decide) (law_35 hX hLI.1 hLI.2.1 hx (i : Int) _ _ _ _ b1 b2 b3 b4 rfl rfl rfl rfl hk5 M M' eL (x_wid (by omega) (by omega) (nxt G M' hX (LI_37 (h37 (by decide)) hLI) hx hI')))
    | 36, hcv, _ =>
      obtain ⟨M', eL, hI', h37, -⟩ := hSt M hInv 36 (by decide) (sx (ix ((i : Int) + 1))) (sx (ix ((i : Int) + 2))) (sx (ix ((i : Int) + 3))) (sx (ix ((i : Int) + 4))) (hsx _) (hsx _) (hsx _) (hsx _)
      exact x_tsI (c := 36) (tgt := 2337) hX dL_law_39 hcv (by decide) (by decide) rfl (by decide) (law_36 hX hLI.1 hLI.2.1 hx (i : Int) _ _ _ _ b1 b2 b3 b4 rfl rfl rfl rfl hk5 M M' eL (x_wid (by omega) (by omega) (nxt G M' hX (LI_37 (h37 (by decide)) hLI) hx hI')))
    | 37, hcv, _ =>
      obtain ⟨M', eL, hI', h37, -⟩ := hSt M hInv 37 (by decide) (sx (ix ((i : Int) + 1))) (sx (ix ((i : Int) + 2))) (sx (ix ((i : Int) + 3))) (sx (ix ((i : Int) + 4))) (hsx _) (hsx _) (hsx _) (hsx _)
      exact x_tsI (c := 37) (tgt := 2405) hX dL_law_39 hcv (by decide) (by decide) rfl (by decide) (law_37 hX hLI.1 hLI.2.1 hx (i : Int) _ _ _ _ b1 b2 b3 b4 rfl rfl rfl rfl hk5 M M' eL (x_wid (by omega) (by omega) (nxt G M' hX (LI_37 (h37 (by decide)) hLI) hx hI')))
    | 38, hcv, _ =>
      obtain ⟨M', eL, hI', h37, -⟩ := hSt M hInv 38 (by decide) (sx (ix ((i : Int) + 1))) (sx (ix ((i : Int) + 2))) (sx (ix ((i : Int) + 3))) (sx (ix ((i : Int) + 4))) (hsx _) (hsx _) (hsx _) (hsx _)
      exact x_tsI (c := 38) (tgt := 2473) hX dL_law_39 hcv (by decide) (by decide) rfl (by decide) (law_38 hX hLI.1 hLI.2.1 hx (i : Int) _ _ _ _ b1 b2 b3 b4 rfl rfl rfl rfl hk5 M M' eL (x_wid (by omega) (by omega) (nxt G M' hX (LI_37 (h37 (by decide)) hLI) hx hI')))
    | 39, hcv, _ =>
      obtain ⟨M', eL, hI', h37, -⟩ := hSt M hInv 39 (by decide) (sx (ix ((i : Int) + 1))) (sx (ix ((i : Int) + 2))) (sx (ix ((i : Int) + 3))) (sx (ix ((i : Int) + 4))) (hsx _) (hsx _) (hsx _) (hsx _)
      exact x_tsI (c := 39) (tgt := 2529) hX dL_law_39 hcv (by decide) (by decide) rfl (by decide) (law_39 hX hLI.1 hLI.2.1 hx (i : Int) _ _ _ _ b1 b2 b3 b4 rfl rfl rfl rfl hk5 M M' eL (x_wid (by omega) (by omega) (nxt G M' hX (LI_37 (h37 (by decide)) hLI) hx hI')))
    | 40, hcv, _ =>
      obtain ⟨M', eL, hI', h37, -⟩ := hSt M hInv 40 (by decide) (sx (ix ((i : Int) + 1))) (sx (ix ((i : Int) + 2))) (sx (ix ((i : Int) + 3))) (sx (ix ((i : Int) + 4))) (hsx _) (hsx _) (hsx _) (hsx _)
      exact x_tsI (c := 40) (tgt := 2542) hX dL_law_39 hcv (by decide) (by decide) rfl (by decide) (law_40 hX hLI.1 hLI.2.1 hx (i : Int) _ _ _ _ b1 b2 b3 b4 rfl rfl rfl rfl hk5 M M' eL (x_wid (by omega) (by omega) (nxt G M' hX (LI_37 (h37 (by decide)) hLI) hx hI')))
    | 41, hcv, _ =>
      obtain ⟨M', eL, hI', h37, -⟩ := hSt M hInv 41 (by decide) (sx (ix ((i : Int) + 1))) (sx (ix ((i : Int) + 2))) (sx (ix ((i : Int) + 3))) (sx (ix ((i : Int) + 4))) (hsx _) (hsx _) (hsx _) (hsx _)
      exact x_tsI (c := 41) (tgt := 2598) hX dL_law_39 hcv (by decide) (by decide) rfl (by decide) (law_41 hX hLI.1 hLI.2.1 hx (i : Int) _ _ _ _ b1 b2 b3 b4 rfl rfl rfl rfl hk5 M M' eL (x_wid (by omega) (by omega) (nxt G M' hX (LI_37 (h37 (by decide)) hLI) hx hI')))
    | 42, hcv, _ =>
      obtain ⟨M', eL, hI', h37, -⟩ := hSt M hInv 42 (by decide) (sx (ix ((i : Int) + 1))) (sx (ix ((i : Int) + 2))) (sx (ix ((i : Int) + 3))) (sx (ix ((i : Int) + 4))) (hsx _) (hsx _) (hsx _) (hsx _)
      exact x_tsI (c := 42) (tgt := 2611) hX dL_law_39 hcv (by decide) (by decide) rfl (by decide) (law_42 hX hLI.1 hLI.2.1 hx (i : Int) _ _ _ _ b1 b2 b3 b4 rfl rfl rfl rfl hk5 M M' eL (x_wid (by omega) (by omega) (nxt G M' hX (LI_37 (h37 (by decide)) hLI) hx hI')))
    | 43, hcv, _ =>
      obtain ⟨M', eL, hI', h37, -⟩ := hSt M hInv 43 (by decide) (sx (ix ((i : Int) + 1))) (sx (ix ((i : Int) + 2))) (sx (ix ((i : Int) + 3))) (sx (ix ((i : Int) + 4))) (hsx _) (hsx _) (hsx _) (hsx _)
      exact x_tsI (c := 43) (tgt := 2624) hX dL_law_39 hcv (by decide) (by decide) rfl (by decide) (law_43 hX hLI.1 hLI.2.1 hx (i : Int) _ _ _ _ b1 b2 b3 b4 rfl rfl rfl rfl hk5 M M' eL (x_wid (by omega) (by omega) (nxt G M' hX (LI_37 (h37 (by decide)) hLI) hx hI')))
    | 44, hcv, _ =>
      obtain ⟨M', eL, hI', h37, -⟩ := hSt M hInv 44 (by decide) (sx (ix ((i : Int) + 1))) (sx (ix ((i : Int) + 2))) (sx (ix ((i : Int) + 3))) (sx (ix ((i : Int) + 4))) (hsx _) (hsx _) (hsx _) (hsx _)
      exact x_tsI (c := 44) (tgt := 2637) hX dL_law_39 hcv (by decide) (by decide) rfl (by decide) (law_44 hX hLI.1 hLI.2.1 hx (i : Int) _ _ _ _ b1 b2 b3 b4 rfl rfl rfl rfl hk5 M M' eL (x_wid (by omega) (by omega) (nxt G M' hX (LI_37 (h37 (by decide)) hLI) hx hI')))
    | 45, hcv, _ =>
      obtain ⟨M', eL, hI', h37, -⟩ := hSt M hInv 45 (by decide) (sx (ix ((i : Int) + 1))) (sx (ix ((i : Int) + 2))) (sx (ix ((i : Int) + 3))) (sx (ix ((i : Int) + 4))) (hsx _) (hsx _) (hsx _) (hsx _)
      exact x_tsI (c := 45) (tgt := 2650) hX dL_law_39 hcv (by decide) (by decide) rfl (by decide) (law_45 hX hLI.1 hLI.2.1 hx (i : Int) _ _ _ _ b1 b2 b3 b4 rfl rfl rfl rfl hk5 M M' eL (x_wid (by omega) (by omega) (nxt G M' hX (LI_37 (h37 (by decide)) hLI) hx hI')))
    | 46, hcv, _ =>
      obtain ⟨M', eL, hI', h37, -⟩ := hSt M hInv 46 (by decide) (sx (ix ((i : Int) + 1))) (sx (ix ((i : Int) + 2))) (sx (ix ((i : Int) + 3))) (sx (ix ((i : Int) + 4))) (hsx _) (hsx _) (hsx _) (hsx _)
      exact x_tsI (c := 46) (tgt := 2694) hX dL_law_39 hcv (by decide) (by decide) rfl (by decide) (law_46 hX hLI.1 hLI.2.1 hx (i : Int) _ _ _ _ b1 b2 b3 b4 rfl rfl rfl rfl hk5 M M' eL (x_wid (by omega) (by omega) (nxt G M' hX (LI_37 (h37 (by decide)) hLI) hx hI')))
    | 47, hcv, _ =>
      obtain ⟨M', eL, hI', h37, -⟩ := hSt M hInv 47 (by decide) (sx (ix ((i : Int) + 1))) (sx (ix ((i : Int) + 2))) (sx (ix ((i : Int) + 3))) (sx (ix ((i : Int) + 4))) (hsx _) (hsx _) (hsx _) (hsx _)
      exact x_tsI (c := 47) (tgt := 2762) hX dL_law_39 hcv (by decide) (by decide) rfl (by decide) (law_47 hX hLI.1 hLI.2.1 hx (i : Int) _ _ _ _ b1 b2 b3 b4 rfl rfl rfl rfl hk5 M M' eL (x_wid (by omega) (by omega) (nxt G M' hX (LI_37 (h37 (by decide)) hLI) hx hI')))
    | 48, hcv, _ =>
      obtain ⟨M', eL, hI', h37, -⟩ := hSt M hInv 48 (by decide) (sx (ix ((i : Int) + 1))) (sx (ix ((i : Int) + 2))) (sx (ix ((i : Int) + 3))) (sx (ix ((i : Int) + 4))) (hsx _) (hsx _) (hsx _) (hsx _)
      exact x_tsI (c := 48) (tgt := 2830) hX dL_law_39 hcv (by decide) (by decide) rfl (by decide) (law_48 hX hLI.1 hLI.2.1 hx (i : Int) _ _ _ _ b1 b2 b3 b4 rfl rfl rfl rfl hk5 M M' eL (x_wid (by omega) (by omega) (nxt G M' hX (LI_37 (h37 (by decide)) hLI) hx hI')))
    | 49, hcv, _ =>
      obtain ⟨M', eL, hI', h37, -⟩ := hSt M hInv 49 (by decide) (sx (ix ((i : Int) + 1))) (sx (ix ((i : Int) + 2))) (sx (ix ((i : Int) + 3))) (sx (ix ((i : Int) + 4))) (hsx _) (hsx _) (hsx _) (hsx _)
      exact x_tsI (c := 49) (tgt := 2843) hX dL_law_39 hcv (by decide) (by decide) rfl (by decide) (law_49 hX hLI.1 hLI.2.1 hx (i : Int) _ _ _ _ b1 b2 b3 b4 rfl rfl rfl rfl hk5 M M' eL (x_wid (by omega) (by omega) (nxt G M' hX (LI_37 (h37 (by decide)) hLI) hx hI')))
    | 50, hcv, _ =>
      obtain ⟨M', eL, hI', h37, -⟩ := hSt M hInv 50 (by decide) (sx (ix ((i : Int) + 1))) (sx (ix ((i : Int) + 2))) (sx (ix ((i : Int) + 3))) (sx (ix ((i : Int) + 4))) (hsx _) (hsx _) (hsx _) (hsx _)
      exact x_tsI (c := 50) (tgt := 2856) hX dL_law_39 hcv (by decide) (by decide) rfl (by decide) (law_50 hX hLI.1 hLI.2.1 hx (i : Int) _ _ _ _ b1 b2 b3 b4 rfl rfl rfl rfl hk5 M M' eL (x_wid (by omega) (by omega) (nxt G M' hX (LI_37 (h37 (by decide)) hLI) hx hI')))
    | 51, hcv, _ =>
      obtain ⟨M', eL, hI', h37, -⟩ := hSt M hInv 51 (by decide) (sx (ix ((i : Int) + 1))) (sx (ix ((i : Int) + 2))) (sx (ix ((i : Int) + 3))) (sx (ix ((i : Int) + 4))) (hsx _) (hsx _) (hsx _) (hsx _)
      exact x_tsI (c := 51) (tgt := 2924) hX dL_law_39 hcv (by decide) (by decide) rfl (by decide) (law_51 hX hLI.1 hLI.2.1 hx (i : Int) _ _ _ _ b1 b2 b3 b4 rfl rfl rfl rfl hk5 M M' eL (x_wid (by omega) (by omega) (nxt G M' hX (LI_37 (h37 (by decide)) hLI) hx hI')))
    | 52, hcv, _ =>
      obtain ⟨M', eL, hI', h37, -⟩ := hSt M hInv 52 (by decide) (sx (ix ((i : Int) + 1))) (sx (ix ((i : Int) + 2))) (sx (ix ((i : Int) + 3))) (sx (ix ((i : Int) + 4))) (hsx _) (hsx _) (hsx _) (hsx _)
      exact x_tsI (c := 52) (tgt := 2980) hX dL_law_39 hcv (by decide) (by decide) rfl (by decide) (law_52 hX hLI.1 hLI.2.1 hx (i : Int) _ _ _ _ b1 b2 b3 b4 rfl rfl rfl rfl hk5 M M' eL (x_wid (by omega) (by omega) (nxt G M' hX (LI_37 (h37 (by decide)) hLI) hx hI')))
    | 53, hcv, _ =>
      obtain ⟨M', eL, hI', h37, -⟩ := hSt M hInv 53 (by decide) (sx (ix ((i : Int) + 1))) (sx (ix ((i : Int) + 2))) (sx (ix ((i : Int) + 3))) (sx (ix ((i : Int) + 4))) (hsx _) (hsx _) (hsx _) (hsx _)
      exact x_tsI (c := 53) (tgt := 3036) hX dL_law_39 hcv (by decide) (by decide) rfl (by decide) (law_53 hX hLI.1 hLI.2.1 hx (i : Int) _ _ _ _ b1 b2 b3 b4 rfl rfl rfl rfl hk5 M M' eL (x_wid (by omega) (by omega) (nxt G M' hX (LI_37 (h37 (by decide)) hLI) hx hI')))
    | 54, hcv, _ =>
      obtain ⟨M', eL, hI', h37, -⟩ := hSt M hInv 54 (by decide) (sx (ix ((i : Int) + 1))) (sx (ix ((i : Int) + 2))) (sx (ix ((i : Int) + 3))) (sx (ix ((i : Int) + 4))) (hsx _) (hsx _) (hsx _) (hsx _)
      exact x_tsI (c := 54) (tgt := 3049) hX dL_law_39 hcv (by decide) (by decide) rfl (by decide) (law_54 hX hLI.1 hLI.2.1 hx (i : Int) _ _ _ _ b1 b2 b3 b4 rfl rfl rfl rfl hk5 M M' eL (x_wid (by omega) (by omega) (nxt G M' hX (LI_37 (h37 (by decide)) hLI) hx hI')))
    | 55, hcv, _ =>
      obtain ⟨M', eL, hI', h37, -⟩ := hSt M hInv 55 (by decide) (sx (ix ((i : Int) + 1))) (sx (ix ((i : Int) + 2))) (sx (ix ((i : Int) + 3))) (sx (ix ((i : Int) + 4))) (hsx _) (hsx _) (hsx _) (hsx _)
      exact x_tsI (c := 55) (tgt := 3062) hX dL_law_39 hcv (by decide) (by decide) rfl (by decide) (law_55 hX hLI.1 hLI.2.1 hx (i : Int) _ _ _ _ b1 b2 b3 b4 rfl rfl rfl rfl hk5 M M' eL (x_wid (by omega) (by omega) (nxt G M' hX (LI_37 (h37 (by decide)) hLI) hx hI')))
    | 56, hcv, _ =>
      obtain ⟨M', eL, hI', -, h56⟩ := hSt M hInv 56 (by decide) (sx (ix ((i : Int) + 1))) (sx (ix ((i : Int) + 2))) (sx (ix ((i : Int) + 3))) (sx (ix ((i : Int) + 4))) (hsx _) (hsx _) (hsx _) (hsx _)
      obtain ⟨q1, q2, q3⟩ := h56 rfl
      exact x_tsI (c := 56) (tgt := 3075) hX dL_law_39 hcv (by decide) (by decide) rfl (by decide) (law_56 hX hLI.1 hLI.2.1 hx (i : Int) (sx (ix ((i : Int) + 1))) (sx (ix ((i : Int) + 2))) (sx (ix ((i : Int) + 3))) (sx (ix ((i : Int) + 4))) b1 rfl hk M M' (LI_sv hLI) (fun q h => (hA q).mpr h) hLI.2.2.1 (fun w hz => hLI.2.2.2 _ (save_lt w.choose_spec) hz) eL
        (fun w1 w2 => nxt G M' hX (LI_37 (q2 w1 w2) hLI) hx hI') (fun w1 => nxt G M' hX (LI_37 (q3 w1) hLI) hx hI') (fun w1 w2 G1 t1 l1 a1 hY => nxt G1 M' hY (LI_new (save_lt w1.choose_spec) l1 (q1 w1 w2) hLI) (SX_G hx t1) hI'))
    | 57, hcv, _ =>
      obtain ⟨M', eL, hI', h37, -⟩ := hSt M hInv 57 (by decide) (sx (ix ((i : Int) + 1))) (sx (ix ((i : Int) + 2))) (sx (ix ((i : Int) + 3))) (sx (ix ((i : Int) + 4))) (hsx _) (hsx _) (hsx _) (hsx _)
      exact x_tsI (c := 57) (tgt := 3111) hX dL_law_39 hcv (by decide) (by decide) rfl (by decide) (law_57 hX hLI.1 hLI.2.1 hx (i : Int) _ _ _ _ b1 b2 b3 b4 rfl rfl rfl rfl hk5 M M' (LI_sv hLI) eL (x_wid (by omega) (by omega) (nxt G M' hX (LI_37 (h37 (by decide)) hLI) hx hI')))
    | c + 58, hcv, hlt =>
      exact x_tsO (tgt := 3147) hX dL_law_39 (Or.inr (by rw [hcv]; omega)) (by decide) (x_wid (by omega) (by omega) (nxt G M hX hLI hx hInv))
