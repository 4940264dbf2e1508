-- ===== lengths don't depend on the batches =====
def E5 (N N' : Nat → Int) : Prop := ∀ k, k ≠ 5 → k < 461 → N' k = N k
set_option maxHeartbeats 600000 in
theorem zns_c {N N' : Nat → Int} (e : E5 N N') : zns N' = zns N := by
  unfold zns
  rw [e 7 (by omega) (by omega), e 8 (by omega) (by omega)]
set_option maxHeartbeats 600000 in
theorem thr_c {N N' : Nat → Int} (e : E5 N N') : thr N' = thr N := by
  unfold thr
  rw [e 1 (by omega) (by omega)]
set_option maxHeartbeats 600000 in
theorem zF_c {N N' : Nat → Int} (e : E5 N N') : zF N' = zF N := by
  funext z
  unfold zF
  rw [e 7 (by omega) (by omega), e 8 (by omega) (by omega)]
set_option maxHeartbeats 600000 in
theorem zE_c {N N' : Nat → Int} (e : E5 N N') : zE N' = zE N := by
  funext z
  unfold zE
  rw [zns_c e, zF_c e, e 0 (by omega) (by omega)]
set_option maxHeartbeats 600000 in
theorem hiA_c {N N' : Nat → Int} (e : E5 N N') {x : Int} {a : Nat} : ∀ n : Nat, n ≤ 24 → hiA N' x a n = hiA N x a n := by
  intro n
  induction n with
  | zero => intro _; rfl
  | succ n ih =>
    intro hn
    simp only [hiA]
    rw [ih (by omega), e (13 + 4 * n) (by omega) (by omega), e (14 + 4 * n) (by omega) (by omega)]
set_option maxHeartbeats 600000 in
theorem loA_c {N N' : Nat → Int} (e : E5 N N') {x : Int} {a : Nat} : ∀ n : Nat, n ≤ 24 → loA N' x a n = loA N x a n := by
  intro n
  induction n with
  | zero => intro _; rfl
  | succ n ih =>
    intro hn
    simp only [loA]
    rw [ih (by omega), e (13 + 4 * n) (by omega) (by omega), e (14 + 4 * n) (by omega) (by omega)]
set_option maxHeartbeats 600000 in
theorem plA_c {N N' : Nat → Int} (e : E5 N N') {x : Int} {a : Nat} : ∀ n : Nat, n ≤ 24 → plA N' x a n = plA N x a n := by
  intro n
  induction n with
  | zero => intro _; rfl
  | succ n ih =>
    intro hn
    simp only [plA]
    rw [ih (by omega), e (13 + 4 * n) (by omega) (by omega), e (14 + 4 * n) (by omega) (by omega)]
set_option maxHeartbeats 600000 in
theorem hiF_c {N N' : Nat → Int} (e : E5 N N') (h3 : (N 3).toNat ≤ 24) : hiF N' = hiF N := by
  funext x a
  unfold hiF
  rw [e 3 (by omega) (by omega), hiA_c e _ h3]
set_option maxHeartbeats 600000 in
theorem loF_c {N N' : Nat → Int} (e : E5 N N') (h3 : (N 3).toNat ≤ 24) : loF N' = loF N := by
  funext x a
  unfold loF
  rw [e 3 (by omega) (by omega), loA_c e _ h3]
set_option maxHeartbeats 600000 in
theorem plF_c {N N' : Nat → Int} (e : E5 N N') (h3 : (N 3).toNat ≤ 24) : plF N' = plF N := by
  funext x a
  unfold plF
  rw [e 3 (by omega) (by omega), plA_c e _ h3]
set_option maxHeartbeats 600000 in
theorem vs_c {N N' : Nat → Int} (e : E5 N N') (h3 : (N 3).toNat ≤ 24) {x : Int} {f : Nat} : ∀ d : Nat, vs N' x f d = vs N x f d := by
  intro d
  induction d with
  | zero => rfl
  | succ d ih => simp only [vs]; rw [ih, hiF_c e h3]
set_option maxHeartbeats 600000 in
theorem vz_c {N N' : Nat → Int} (e : E5 N N') (h3 : (N 3).toNat ≤ 24) : vz N' = vz N := by
  funext x z
  unfold vz
  rw [zF_c e, zE_c e, vs_c e h3]
set_option maxHeartbeats 600000 in
theorem gEnd_c {N N' : Nat → Int} (e : E5 N N') (h3 : (N 3).toNat ≤ 24) : gEnd N' = gEnd N := by
  funext x a p
  unfold gEnd
  rw [thr_c e, plF_c e h3]
set_option maxHeartbeats 600000 in
theorem gpA_c {N N' : Nat → Int} (e : E5 N N') (h3 : (N 3).toNat ≤ 24) {x : Int} {a : Nat} : ∀ p : Nat, gpA N' x a p = gpA N x a p := by
  intro p
  induction p with
  | zero => rfl
  | succ p ih => simp only [gpA]; rw [ih, gEnd_c e h3]
set_option maxHeartbeats 600000 in
theorem gap_c {N N' : Nat → Int} (e : E5 N N') (h3 : (N 3).toNat ≤ 24) : gap N' = gap N := by
  funext x a
  unfold gap
  rw [thr_c e, gpA_c e h3]
set_option maxHeartbeats 600000 in
theorem rtS_c {N N' : Nat → Int} (e : E5 N N') (h3 : (N 3).toNat ≤ 24) : rtS N' = rtS N := by
  funext x l
  unfold rtS
  rw [hiF_c e h3]
set_option maxHeartbeats 600000 in
theorem gaS_c {N N' : Nat → Int} (e : E5 N N') (h3 : (N 3).toNat ≤ 24) : gaS N' = gaS N := by
  funext x l
  unfold gaS
  rw [thr_c e, rtS_c e h3, gap_c e h3]
set_option maxHeartbeats 600000 in
theorem ssS_c {N N' : Nat → Int} (e : E5 N N') (h3 : (N 3).toNat ≤ 24) : ssS N' = ssS N := by
  funext x l
  unfold ssS
  rw [thr_c e, hiF_c e h3]
set_option maxHeartbeats 600000 in
theorem cH_c {N N' : Nat → Int} (e : E5 N N') (h3 : (N 3).toNat ≤ 24) : cH N' = cH N := by
  funext x l b k
  unfold cH
  rw [thr_c e, hiF_c e h3, loF_c e h3]
set_option maxHeartbeats 600000 in
theorem cW_c {N N' : Nat → Int} (e : E5 N N') (h3 : (N 3).toNat ≤ 24) {x : Int} {l : List Nat} : ∀ (r : Nat) (b : Bool), cW N' x l r b = cW N x l r b := by
  intro r
  induction r with
  | zero => intro b; rfl
  | succ r ih => intro b; simp only [cW]; rw [ih, ih, thr_c e, cH_c e h3]
set_option maxHeartbeats 600000 in
theorem lnC_c {N N' : Nat → Int} (e : E5 N N') (h3 : (N 3).toNat ≤ 24) : lnC N' = lnC N := by
  funext x l pol
  unfold lnC
  rw [ssS_c e h3, gaS_c e h3, rtS_c e h3, cW_c e h3]
set_option maxHeartbeats 600000 in
theorem lnZ_c {N N' : Nat → Int} (e : E5 N N') (h3 : (N 3).toNat ≤ 24) : lnZ N' = lnZ N := by
  funext x z pol
  unfold lnZ
  rw [vz_c e h3, zF_c e, lnC_c e h3, e 2 (by omega) (by omega)]
set_option maxHeartbeats 600000 in
theorem imL_c {N N' : Nat → Int} (e : E5 N N') {o : Nat} (ho : o < 16) {x : Int} : ∀ k : Nat, k ≤ 6 → imL N' o x k = imL N o x k := by
  intro k
  induction k with
  | zero => intro _; rfl
  | succ k ih =>
    intro hk
    simp only [imL, itN]
    rw [ih (by omega), e (113 + 22 * o + 3 * k) (by omega) (by omega)]
set_option maxHeartbeats 600000 in
theorem imA_c {N N' : Nat → Int} (hW : WF N) (e : E5 N N') {m : Int} : ∀ n : Nat, (n : Int) ≤ N 4 → imA N' m n = imA N m n := by
  have q4 := n4 hW
  intro n
  induction n with
  | zero => intro _; rfl
  | succ n ih =>
    intro hn
    have l := (lnW hW (o := n) (by omega)).2.2.1
    have el : lnN N' n = lnN N n := by unfold lnN; rw [e (111 + 22 * n) (by omega) (by omega)]
    simp only [imA]
    rw [ih (by omega), el, imL_c e (by omega) _ l]
set_option maxHeartbeats 600000 in
theorem lfS_c {N N' : Nat → Int} (hW : WF N) (e : E5 N N') {m pol : Int} : lfS N' m pol = lfS N m pol := by
  have q4 := n4 hW
  have h3 := (n3 hW).2
  unfold lfS IM
  rw [zns_c e, e 4 (by omega) (by omega), imA_c hW e _ (by omega), lnZ_c e h3]
set_option maxHeartbeats 600000 in
theorem lfS_rng {N : Nat → Int} (hW : WF N) {m pol : Int} : 0 ≤ lfS N m pol ∧ lfS N m pol ≤ 1500 := by
  have c := zn_rng N
  have := sm_bd (g := fun z => lnZ N (IM N m) z pol) (n := (zns N).toNat) (B := 500) (by omega) (fun z hz => lnZ_rng hW (by omega))
  unfold lfS
  omega
