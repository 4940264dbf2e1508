-- ===== the memory, the world, the judgement V =====
def vi (a : Int) : Value := .int (Int32.ofInt a)
def vLz (a : Int) : Value := .long (Int64.ofInt a)
/-- what lies where: 1 int row, 2 byte row, 3 boolean row, 4 long row, 5 row of int rows, 6 row of halls, 10 + c an object of the c-th class -/
def kdT : List (Nat × Nat) :=
  let hall : List (Nat × Nat) := [(11, 0), (13, 0), (1, 3), (1, 2), (12, 0), (1, 24), (1, 24), (1, 24), (1, 24), (15, 0), (1, 16), (1, 16), (1, 16), (1, 96), (1, 96), (1, 96), (10, 0), (1, 8)]
  let route : List (Nat × Nat) := [(16, 0), (1, 6), (1, 6), (1, 6), (1, 6), (1, 6), (1, 7), (1, 7), (1, 24)]
  let rows : List (Nat × Nat) := [(5, 8), (1, 3), (1, 3), (1, 3), (1, 3), (1, 3), (1, 3), (1, 3), (1, 3)]
  let sched : List (Nat × Nat) := [(17, 0)] ++ rows ++ rows ++ rows ++ route
  [(20, 0)] ++ hall ++ hall ++ [(6, 2), (19, 0), (2, 600)] ++ route ++ sched ++ [(14, 0)] ++ route ++ [(1, 8)] ++ [(18, 0)] ++ sched ++ [(1, 8), (1, 8), (1, 8), (1, 8)]
  ++ [(21, 0), (1, 469), (1, 469), (1, 938), (3, 2), (3, 126), (3, 24), (1, 6), (1, 24), (1, 24), (1, 8), (1, 24), (1, 24), (1, 8), (1, 8), (1, 8), (2, 600), (2, 74)]
  ++ [(4, 1), (0, 0), (0, 0)] ++ hall ++ hall
def kd (i : Nat) : Nat × Nat := kdT.getD i (0, 0)
/-- the fields of the classes: an int, or a reference to the cell so far behind -/
def fspT : List (List (Option Nat)) :=
  [[none, some 1],
   [some 1, some 4, some 9, some 16],
   [none, some 1, some 2, some 3, some 4],
   [none, none, none, none, some 1, none, none, none, some 2],
   [some 1, some 10, none, none, none],
   [none, none, some 1, some 2, some 3, some 4, some 5, some 6],
   [none, none, some 1, some 2, some 3, some 4, none, some 5, none, none, some 6, some 7, none, some 8],
   [some 1, some 10, some 19, some 28],
   [some 1, some 38, some 39, some 40, some 41, none],
   [some 1, none, none, none, none, none, none, none],
   [some 1, some 19, some 37, some 38, some 40, some 49, some 86, some 97],
   [none, some 1, some 2, some 3, some 4, some 5, some 6, some 7, none, none, none, none, none, some 8, none, some 9, some 10, some 11, some 12, some 13, some 14, some 15, some 16, none, none, none, none, none, none, none, some 17]]
abbrev Gx : Type := (Nat → Nat) × List Nat × Nat × va_G × (Nat → ClassId) × (Nat → Nat) × (Nat → Nat)
def gad (G : Gx) : Nat → Nat := G.1
def gL (G : Gx) : List Nat := G.2.1
def gSz (G : Gx) : Nat := G.2.2.1
def gDz (G : Gx) : va_G := G.2.2.2.1
def gcy (G : Gx) : Nat → ClassId := G.2.2.2.2.1
def gsK (G : Gx) : Nat → Nat := G.2.2.2.2.2.1
def gsV (G : Gx) : Nat → Nat := G.2.2.2.2.2.2
def vr (G : Gx) (i : Nat) : Value := .ref (gad G i)
def vsz (G : Gx) (i : Nat) : Value := .ref (gsK G i)
/-- the addresses of the cells that are there -/
def gA (G : Gx) : Nat → Prop := fun q => ∃ i, i ∈ gL G ∧ gad G i = q
/-- all that came behind the law's start -/
def gA0 (G : Gx) : Nat → Prop := fun q => gSz G ≤ q
def tys (G : Gx) : List (ClassId × FieldType) := [(gcy G 0, .int), (gcy G 1, .byte), (gcy G 2, .boolean), (gcy G 3, .long), (gcy G 4, .array .int), (gcy G 5, .object "PickHall$Hall")]
def fv (G : Gx) (M : Mem) (i k : Nat) (o : Option Nat) : Value := match o with
  | none => vi (M i k)
  | some off => vr G (i + off)
def flds (G : Gx) (M : Mem) (i ci : Nat) : List Value := (fspT.getD ci []).mapIdx (fun k o => fv G M i k o)
def ent (G : Gx) (M : Mem) (i : Nat) : va_E :=
  if (kd i).1 = 1 then .inl (gcy G 0, (kd i).2, .inl (fun j => Int32.ofInt (M i j)))
  else if (kd i).1 = 2 then .inl (gcy G 1, (kd i).2, .inl (fun j => Int32.ofInt (M i j)))
  else if (kd i).1 = 3 then .inl (gcy G 2, (kd i).2, .inl (fun j => Int32.ofInt (M i j)))
  else if (kd i).1 = 4 then .inl (gcy G 3, (kd i).2, .inr (.inl (fun j => Int64.ofInt (M i j))))
  else if (kd i).1 = 5 then .inl (gcy G 4, (kd i).2, .inr (.inr (.inr (.inr (fun j => if j < (kd i).2 then some (gad G (i + 1 + j)) else none)))))
  else if (kd i).1 = 6 then .inl (gcy G 5, (kd i).2, .inr (.inr (.inr (.inr (fun j => if M i j = 0 then none else some (gad G (160 + 18 * j)))))))
  else .inr ((kd i).1 - 10, flds G M i ((kd i).1 - 10))
def wl (G : Gx) (M : Mem) : va_W := (gL G).map (fun i => (gad G i, ent G M i))
def at_ (G : Gx) (i t N : Nat) : Prop := i ∈ gL G ∧ kd i = (t, N)
def GOK (G : Gx) : Prop := (gL G).Nodup ∧ (∀ i ∈ gL G, ∀ (ci k off : Nat), kd i = (10 + ci, 0) → (fspT.getD ci [])[k]? = some (some off) → i + off ∈ gL G) ∧ (∀ i ∈ gL G, kd i = (5, 8) → ∀ j : Nat, j < 8 → i + 1 + j ∈ gL G) ∧ ∀ i ∈ gL G, gSz G ≤ gad G i
/-- the cells that the whole run has from its start -/
def SOK (G : Gx) : Prop := ∀ i, i < 157 → i ∈ gL G
/-- words that the tables hold and that no list of good words bears -/
def excT : List String := ["java/lang/IllegalStateException", "java/lang/IllegalArgumentException", "java/lang/IndexOutOfBoundsException"]
def nestT : List (String × Nat × String) := [("PickHall$Hall", 11, "PickHall$Layout"), ("PickHall$Hall", 20, "PickHall$Items"), ("PickHall$Hall", 27, "PickHall$Orders"), ("PickHall$Hall", 34, "PickHall$Batches"), ("PickHall", 25, "PickHall$SetupReader"), ("PickHall", 32, "PickHall$Route"), ("PickHall", 39, "PickHall$Schedule"), ("PickHall$Schedule", 24, "PickHall$Route"), ("PickHall", 46, "PickHall$Moves"), ("PickHall$Moves", 11, "PickHall$Route"), ("PickHall", 53, "PickHall$Sequence"), ("PickHall$Sequence", 11, "PickHall$Schedule")]
def declT : List String := ["java/lang/RuntimeException", "java/lang/Exception", "java/lang/Throwable"]
def TF (U : State) : Prop := (∀ E ∈ excT, va_Nw (.castable E E) U) ∧ (∀ q ∈ nestT, va_Nw (.methodLinkNest q.1 q.2.1 ⟨q.2.2, "<init>", "()V"⟩ "PickHall") U) ∧ (∀ C ∈ declT, va_Nw (.declares ⟨C, "<init>", "(Ljava/lang/String;)V"⟩) U) ∧ (∀ E ∈ excT, ∀ F ∈ excT, E ≠ F → va_Nc E F U) ∧ va_AO "PickHall$Hall" U ∧ va_AOA .int U
def STf (G : Gx) (U : State) : Prop :=
  vx_Zq Bundle.tN "UNASSIGNED_STACK" Bundle.steD (gA0 G) U U.heap ∧ vx_Zq Bundle.tN "SUPPRESSED_SENTINEL" Bundle.listD (gA0 G) U U.heap ∧
  (∀ (k : Nat) (q : String × Nat × String), strT[k]? = some q → vk_R q.1 q.2.1 q.2.2 (gsK G k) U) ∧ vk_S 12 lenS bytS (gsK G) (gsV G) (gA0 G) U U.heap ∧
  va_Z "java/lang/String" "COMPACT_STRINGS" "Z" (.int 1) (gA0 G) U U.heap ∧ va_Zq "jdk/internal/util/Preconditions" "SIOOBE_FORMATTER" "Ljava/util/function/BiFunction;" (gA0 G) U U.heap ∧ TF U
def Wd (G : Gx) (M : Mem) (U : State) : Prop :=
  va_P (gDz G) vwCl (wl G M) U.heap ∧ va_K (gDz G) vwCl (tys G) U ∧ va_D (gA G) (wl G M) ∧ gSz G ≤ U.heap.size ∧ STf G U
def LV (la : Array Slot) (nL : Nat) (ls : List (Option Value)) : Prop := la.size = nL ∧ lv_wf la ∧ ∀ (i : Nat) (v : Value), ls[i]? = some (some v) → la[i]? = some (.val v) ∧ v.category = 1
abbrev Cxt : Type := (Nat → Prop) × Gx × Program × Launch × Env × Room × State × MethodId × Array Value × List Frame × Method × Code
/-- the addresses that may be written -/
abbrev xA (X : Cxt) : Nat → Prop := X.1
abbrev xG (X : Cxt) : Gx := X.2.1
abbrev xp (X : Cxt) : Program := X.2.2.1
abbrev xl (X : Cxt) : Launch := X.2.2.2.1
abbrev xe (X : Cxt) : Env := X.2.2.2.2.1
abbrev xR (X : Cxt) : Room := X.2.2.2.2.2.1
abbrev xs (X : Cxt) : State := X.2.2.2.2.2.2.1
abbrev xm (X : Cxt) : MethodId := X.2.2.2.2.2.2.2.1
abbrev xa (X : Cxt) : Array Value := X.2.2.2.2.2.2.2.2.1
abbrev xb (X : Cxt) : List Frame := X.2.2.2.2.2.2.2.2.2.1
abbrev xt (X : Cxt) : Method := X.2.2.2.2.2.2.2.2.2.2.1
abbrev xc (X : Cxt) : Code := X.2.2.2.2.2.2.2.2.2.2.2
abbrev WX (X : Cxt) (H : Heap) (locs : List Loc) (k n : Nat) (Q : State → Prop) (g : JFrame) : Prop := W (xp X) (xl X) (xe X) (xR X) (xs X) (xm X) (xa X) (xb X) (xt X) (xc X) H locs k n Q g
def V (X : Cxt) (k n : Nat) (Q : State → Prop) (pc : Nat) (ls : List (Option Value)) (st : List Value) (M : Mem) : Prop :=
  ∀ (H : Heap) (locs : List Loc) (la : Array Slot), LV la (xc X).maxLocals ls → va_P (gDz (xG X)) vwCl (wl (xG X) M) H → va_D (xA X) (wl (xG X) M) → va_S (xA X) (xs X).heap H locs → WX X H locs k n Q (F0 (xm X) pc la st)
/-- the room of a method of this height -/
def rmk (lv mc ms : Nat) : Room := { frames := lv + 10, cells := mc, slots := ms, locals := 64 * lv + 300 }
def Gd (X : Cxt) (own : String) (cc : ByteArray) (nL : Nat) (ret : Option FieldType) (lv : Nat) : Prop :=
  (xp X).tables.exec = Jvm.exec ∧ (xc X).code = cc ∧ (xc X).maxLocals = nL ∧ (xs X).vm.findClass own = some (xm X).cls ∧ (∀ w ∈ WS, w.before (xa X) (xs X) = true) ∧ (xt X).locks = false ∧ (xt X).sig.returnType = ret ∧
  va_K (gDz (xG X)) vwCl (tys (xG X)) (xs X) ∧ GOK (xG X) ∧ gSz (xG X) ≤ (xs X).heap.size ∧ lv + 10 ≤ (xR X).frames ∧ 64 * lv + 300 ≤ (xR X).locals ∧ STf (xG X) (xs X) ∧ (xl X).stackTraces = false ∧ (∀ q, gA (xG X) q → xA X q) ∧ ∀ q, xA X q → gA0 (xG X) q
