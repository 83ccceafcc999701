/-! THE ABSTRACT HEAP: size; kind of a cell (0: not looked at; 1..7: an object of vwCl's class kind - 1; 20 int[], 21 boolean[], 22 char[], 23 byte[], 24 not used (an int[]), 25 Bus[], 26 Depot[]); an array's length; whole-number slots; reference slots; long slots -/
abbrev AH : Type := Nat × (Nat → Nat) × (Nat → Nat) × (Nat → Nat → Int32) × (Nat → Nat → Option Nat) × (Nat → Nat → Int64)
def gz (C : AH) : Nat := C.1
def gK (C : AH) : Nat → Nat := C.2.1
def gN (C : AH) : Nat → Nat := C.2.2.1
def gI (C : AH) : Nat → Nat → Int32 := C.2.2.2.1
def gR (C : AH) : Nat → Nat → Option Nat := C.2.2.2.2.1
def gJ (C : AH) : Nat → Nat → Int64 := C.2.2.2.2.2
def up2 {α : Type} (f : Nat → Nat → α) (a k : Nat) (v : α) : Nat → Nat → α := fun b j => if b = a ∧ j = k then v else f b j
def wI (C : AH) (f : Nat → Nat → Int32) : AH := (gz C, gK C, gN C, f, gR C, gJ C)
def wR (C : AH) (f : Nat → Nat → Option Nat) : AH := (gz C, gK C, gN C, gI C, f, gJ C)
def wJ (C : AH) (f : Nat → Nat → Int64) : AH := (gz C, gK C, gN C, gI C, gR C, f)
def wZ (C : AH) (z : Nat) : AH := (z, gK C, gN C, gI C, gR C, gJ C)
/-- a new cell of kind κ at the end; n: an array's length -/
def wO (C : AH) (κ n : Nat) : AH := (gz C + 1, fun a => if a = gz C then κ else gK C a, fun a => if a = gz C then n else gN C a, fun a k => if a = gz C then 0 else gI C a k, fun a k => if a = gz C then none else gR C a k, fun a k => if a = gz C then 0 else gJ C a k)
/-- field k of an object of kind κ is a reference -/
def isRf (κ k : Nat) : Bool := match κ with
  | 1 => k == 0
  | 3 => decide (k < 4)
  | 4 => k == 0
  | 5 => k == 0 || k == 4
  | 6 => true
  | 7 => k == 1 || (decide (6 ≤ k) && decide (k ≤ 10)) || decide (12 ≤ k)
  | _ => false
/-- slot k of a cell of kind κ is a boolean -/
def isBo (κ k : Nat) : Bool := match κ with
  | 1 => k == 2
  | 2 => k == 6
  | 7 => k == 4
  | 21 => true
  | _ => false
def fV (C : AH) (κ a k : Nat) : Value := if isRf κ k = true then va_rf (gR C a k) else .int (gI C a k)
def aV (C : AH) (κ a j : Nat) : Value := if κ = 24 then .int (gI C a j) else if 25 ≤ κ then va_rf (gR C a j) else .int (gI C a j)
/-- what is fixed: the launch, the start's state, the classes' numbers and slots, the array classes' numbers -/
abbrev GT : Type := Launch × State × va_G × (Nat → ClassId)
abbrev gL (G : GT) : Launch := G.1
abbrev gS (G : GT) : State := G.2.1
abbrev gD (G : GT) : va_G := G.2.2.1
abbrev gA (G : GT) : Nat → ClassId := G.2.2.2
abbrev gB (G : GT) : Nat := (gS G).heap.size
abbrev frO (G : GT) : Addr → Prop := fun q => gB G ≤ q
def arT (κ : Nat) : FieldType := match κ with
  | 20 => .int
  | 21 => .boolean
  | 22 => .char
  | 23 => .byte
  | 24 => .int
  | 25 => .object "DepotCharge$Bus"
  | _ => .object "DepotCharge$Depot"
def tysL (G : GT) : List (ClassId × FieldType) := [(gA G 20, .int), (gA G 21, .boolean), (gA G 22, .char), (gA G 23, .byte), (gA G 24, .int), (gA G 25, .object "DepotCharge$Bus"), (gA G 26, .object "DepotCharge$Depot")]
def cellAt (G : GT) (C : AH) (κ a : Nat) (H : Heap) : Prop :=
  (κ < 20 → ∃ r : vw_C, vwCl[κ - 1]? = some r ∧ t_OB a ((gD G).1 (κ - 1)) r.2.2 ((gD G).2 (κ - 1)) H (fV C κ a)) ∧ (20 ≤ κ → H[a]? = some (arrV (gA G κ) (gN C a) (aV C κ a)))
def RepH (G : GT) (C : AH) (H : Heap) : Prop :=
  H.size = gz C ∧ gB G ≤ gz C ∧ (∀ q : Nat, q < gB G → H[q]? = (gS G).heap[q]?) ∧
  (∀ a : Nat, gK C a ≠ 0 → gB G ≤ a ∧ a < gz C ∧ gK C a < 27 ∧ cellAt G C (gK C a) a H) ∧ ∀ a k : Nat, isBo (gK C a) k = true → gI C a k = 0 ∨ gI C a k = 1
/-! A METHOD's OWN NUMBERS: name, bytes, locals, return type, frames, words of locals, cells, slots -/
abbrev MI : Type := MethodName × ByteArray × Nat × Option FieldType × Nat × Nat × Nat × Nat
abbrev mY (M : MI) : MethodName := M.1
abbrev mB (M : MI) : ByteArray := M.2.1
abbrev mL (M : MI) : Nat := M.2.2.1
abbrev mT (M : MI) : Option FieldType := M.2.2.2.1
abbrev mF (M : MI) : Nat := M.2.2.2.2.1
abbrev mO (M : MI) : Nat := M.2.2.2.2.2.1
abbrev mC (M : MI) : Nat := M.2.2.2.2.2.2.1
abbrev mS (M : MI) : Nat := M.2.2.2.2.2.2.2
def rmO (M : MI) : Room := { frames := mF M, cells := mC M, slots := mS M, locals := mO M }
def TT : List Cond := lw_tbl.filter goodWord
/-- the words of the tables at the start -/
def GW (G : GT) : Prop := ∃ A : Array Value, ∀ w ∈ lw_tbl, w.before A (gS G) = true
def HL (G : GT) (s : State) (H : Heap) (locs : List Loc) : Prop := s.heap.size ≤ H.size ∧ ∀ z ∈ locs, gB G ≤ z.base
def Site (G : GT) (M : MI) (p : Program) (l : Launch) (R : Room) (s : State) (m : MethodId) (meth : Method) (c : Code) : Prop :=
  l = gL G ∧ R = rmO M ∧ p.tables.exec = Jvm.exec ∧ c.code = mB M ∧ c.maxLocals = mL M ∧ s.vm.findClass (mY M).cls = some m.cls ∧ (gS G).WarmedH s.vm ∧ meth.locks = false ∧ meth.sig.returnType = mT M ∧ meth.name = (mY M).name ∧
  gB G ≤ s.heap.size ∧ (∀ q : Nat, q < gB G → s.heap[q]? = (gS G).heap[q]?)
/-- a return's instruction -/
def RetAt (M : MI) (pc : Nat) (v : Option Value) : Prop :=
  (v = none ∧ mT M = none ∧ decode (mB M) pc = .ok (.return_, 1)) ∨
  (∃ (x : Int32) (ty : FieldType), v = some (.int x) ∧ mT M = some ty ∧ narrow ty (.int x) = .int x ∧ decode (mB M) pc = .ok (.ireturn, 1)) ∨
  (∃ (x : Int64), v = some (.long x) ∧ mT M = some .long ∧ decode (mB M) pc = .ok (.lreturn, 1)) ∨
  (∃ (r : Option Nat) (ty : FieldType), v = some (va_rf r) ∧ mT M = some ty ∧ ((∃ n, ty = FieldType.object n) ∨ ∃ t, ty = FieldType.array t) ∧ decode (mB M) pc = .ok (.areturn, 1))
abbrev QT : Type := Option Value → AH → Prop
abbrev XT : Type := String → AH → Prop
def QcO (G : GT) (Q : QT) : Array Value → State → Outcome → State → Prop := fun _ st o t => ∃ (v : Option Value) (C' : AH), o = .returned v ∧ Q v C' ∧ RepH G C' t.heap ∧ st.heap.size ≤ t.heap.size
def XcO (G : GT) (X : XT) : String → State → State → Prop := fun E st t => ∃ C' : AH, X E C' ∧ RepH G C' t.heap ∧ st.heap.size ≤ t.heap.size
def Ends (G : GT) (M : MI) (Q : QT) (X : XT) (p : Program) (l : Launch) (e : Env) (R : Room) (s : State) (m : MethodId) (args : Array Value) (below : List Frame) (meth : Method) (c : Code) (Qf : State → Prop) : Prop :=
  (∀ (v : Option Value) (C' : AH) (H : Heap) (locs : List Loc) (cells slots pc : Nat) (ls : Array Slot), Q v C' → RepH G C' H → HL G s H locs → cells ≤ mC M → slots ≤ mS M → RetAt M pc v → W p l e R s m args below meth c H locs cells slots Qf (F0 m pc ls v.toList)) ∧
  ((∀ (E : String) (C' : AH), ¬ X E C') ∨ ((∀ x ∈ c.exceptionTable.toList, False) ∧ ∃ (Qc : Array Value → State → Outcome → State → Prop) (XC : String → State → State → Prop), Qf = vx_MQ below Qc XC args s (mC M) (mS M) (frO G) ∧ ∀ (E : String) (C' : AH) (t : State), X E C' → RepH G C' t.heap → s.heap.size ≤ t.heap.size → XC E s t))
/-- from pc with locals ls, operand stack st, abstract heap C and room for k cells of n slots the method comes to its end: Q of what it returns, X of what it throws -/
def Ex (G : GT) (M : MI) (Q : QT) (X : XT) (k n pc : Nat) (ls : List (Nat × Value)) (st : List Value) (C : AH) : Prop :=
  ∀ (p : Program) (l : Launch) (e : Env) (R : Room) (s : State) (m : MethodId) (args : Array Value) (below : List Frame) (meth : Method) (c : Code) (Qf : State → Prop), Site G M p l R s m meth c → Ends G M Q X p l e R s m args below meth c Qf →
    ∀ (H : Heap) (locs : List Loc) (cells slots : Nat) (lsA : Array Slot), RepH G C H → HL G s H locs → cells + k ≤ mC M → slots + n ≤ mS M → lv_has lsA (mL M) ls → W p l e R s m args below meth c H locs cells slots Qf (F0 m pc lsA st)
def PcO (G : GT) (C : AH) : State → Prop := fun U => RepH G C U.heap ∧ (gS G).WarmedH U.vm
/-- a method's contract, for these arguments in this heap -/
def Mt (G : GT) (M : MI) (As : List Value) (C : AH) (Q : QT) (X : XT) : Prop :=
  vx_Met (gL G) (mY M) [Cond.code (mY M) (mB M) (mL M) (mT M)] (rmO M) (va_Pc As (PcO G C)) (QcO G Q) (XcO G X) (mC M) (mS M) (frO G)
theorem bl_O {G : GT} {As : List Value} {C : AH} : FrameBlind (va_Pc As (PcO G C)) := fun _ _ _ _ h => h
theorem HL_app {G : GT} {s : State} {H H1 : Heap} {locs L : List Loc} (h : HL G s H locs) (h1 : H.size ≤ H1.size) (hL : ∀ z ∈ L, gB G ≤ z.base) : HL G s H1 (locs ++ L) :=
  ⟨Nat.le_trans h.1 h1, fun z hz => (List.mem_append.mp hz).elim (h.2 z) (hL z)⟩
theorem ends_std {G : GT} {M : MI} {Q : QT} {X : XT} {p : Program} {l : Launch} {e : Env} {s : State} {m : MethodId} {args : Array Value} {below : List Frame} {meth : Method} {c : Code}
    (S : Site G M p l (rmO M) s m meth c) (ht : (∀ (E : String) (C' : AH), ¬ X E C') ∨ (∀ x ∈ c.exceptionTable.toList, False)) :
    Ends G M Q X p l e (rmO M) s m args below meth c (vx_MQ below (QcO G Q) (XcO G X) args s (mC M) (mS M) (frO G)) := by
  obtain ⟨hl, -, hx, hb, -, -, -, hlk, hrt, -⟩ := S
  refine ⟨?_, ht.imp id (fun h => ⟨h, _, _, rfl, fun E C' t h1 h2 h3 => ⟨C', h1, h2, h3⟩⟩)⟩
  intro v C' H locs cells slots pc ls hq hr hL hc hs hret
  refine vx_ret ?_
  refine W.widen hc hs ?_
  have hpost : ∀ t : State, t.heap = H → s.WarmedH t.vm → QcO G Q args s (.returned v) t := fun t ht _ => ⟨v, C', rfl, hq, by rw [ht]; exact hr, by rw [ht]; exact hL.1⟩
  rcases hret with ⟨rfl, h1, d⟩ | ⟨x, ty, rfl, h1, h2, d⟩ | ⟨x, rfl, h1, d⟩ | ⟨r, ty, rfl, h1, h2, d⟩
  · exact W.vret hx hb (hrt.trans h1) hpost hL.2 d
  · exact W.zret hx hb (hrt.trans h1) h2 hpost hL.2 d
  · exact W.lret hx hb (hrt.trans h1) hpost hL.2 d
  · exact W.aret hx hb (hrt.trans h1) h2 (by cases r; exact Or.inl rfl; exact Or.inr ⟨_, rfl⟩) hpost hL.2 d
theorem Mt_of {G : GT} {M : MI} {As : List Value} {C : AH} {Q : QT} {X : XT} (hy : plainName (mY M).cls = true) (hn : (lg_sl As).length ≤ mL M)
    (h : Ex G M Q X (mC M) (mS M) 0 (lv_args 0 As) [] C) : Mt G M As C Q X := by
  refine vx_ofW (cc := mB M) (maxL := mL M) (ret := mT M) hy rfl ?_
  intro p e s m args below meth c s₁ B hml htab hP
  obtain ⟨rfl, hr, hw⟩ := hP
  have S : Site G M p (gL G) (rmO M) s m meth c := ⟨rfl, rfl, B.exec, B.bytes, hml, findClass_of_methodNamed B.named, hw, B.notSynchronized, B.returns, (name_of_methodNamed B.named B.method).1, by rw [hr.1]; exact hr.2.1, hr.2.2.1⟩
  have hl := lv_entry As (n := mL M) hn
  rw [lg_entry_eq]
  exact h p (gL G) e (rmO M) s m _ below meth c _ S (ends_std S (Or.inr htab)) s.heap [] 0 0 _ hr ⟨Nat.le_refl _, fun z hz => by cases hz⟩ (by omega) (by omega) hl
