/-! methods that catch *)-/
abbrev NX : XT := fun _ _ => False
/-- from pc, in this run of the method *)-/
def ExF (G : GT) (M : MI) (k n pc : Nat) (ls : List (Nat × Value)) (st : List Value) (C : AH) (p : Program) (l : Launch) (e : Env) (R : Room) (s : State) (m : MethodId) (args : Array Value) (below : List Frame) (meth : Method) (c : Code) (Qf : State → Prop) : Prop :=
  ∀ (H : Heap) (locs : List Loc) (cells slots : Nat) (lsA : Array Slot), RepH G C H → HL G s H locs → cells + k ≤ mC M → slots + n ≤ mS M → lv_has lsA (mL M) ls → W p l e R s m args below meth c H locs cells slots Qf (F0 m pc lsA st)
def SiF (M : MI) (p : Program) (c : Code) : Prop := p.tables.exec = Jvm.exec ∧ c.code = mB M
section XF
variable {G : GT} {M : MI} {k n pc : Nat} {ls : List (Nat × Value)} {st : List Value} {C : AH} {p : Program} {l : Launch} {e : Env} {R : Room} {s : State} {m : MethodId} {args : Array Value} {below : List Frame} {meth : Method} {c : Code} {Qf : State → Prop}
theorem f_iconst {j : Int} {v : Int32} (S : SiF M p c) (d : decode (mB M) pc = .ok (.iconst j, 1)) (h : Int32.ofInt j = v) (kk : ExF G M k n (pc + 1) ls (.int v :: st) C p l e R s m args below meth c Qf) : ExF G M k n pc ls st C p l e R s m args below meth c Qf := by
  intro H locs cells slots lsA hr hL hc hs hv
  obtain ⟨hx, hb⟩ := id S
  exact lv_iconst hx hb d h (kk H locs cells slots lsA hr hL hc hs hv)
theorem f_iload_n {j : Fin 4} {x : Int32} (S : SiF M p c) (d : decode (mB M) pc = .ok (.iload_n j, 1)) (h : List.lookup (j : Nat) ls = some (.int x)) (kk : ExF G M k n (pc + 1) ls (.int x :: st) C p l e R s m args below meth c Qf) : ExF G M k n pc ls st C p l e R s m args below meth c Qf := by
  intro H locs cells slots lsA hr hL hc hs hv
  obtain ⟨hx, hb⟩ := id S
  exact lv_iload_n hx hb d rfl (hv.2.2 _ (lk_mem h)) (kk H locs cells slots lsA hr hL hc hs hv)
theorem f_iload {j : Nat} {x : Int32} (S : SiF M p c) (d : decode (mB M) pc = .ok (.iload j, 2)) (h : List.lookup j ls = some (.int x)) (kk : ExF G M k n (pc + 2) ls (.int x :: st) C p l e R s m args below meth c Qf) : ExF G M k n pc ls st C p l e R s m args below meth c Qf := by
  intro H locs cells slots lsA hr hL hc hs hv
  obtain ⟨hx, hb⟩ := id S
  exact lv_iload hx hb d (hv.2.2 _ (lk_mem h)) (kk H locs cells slots lsA hr hL hc hs hv)
theorem f_lload_n {j : Fin 4} {x : Int64} (S : SiF M p c) (d : decode (mB M) pc = .ok (.lload_n j, 1)) (h : List.lookup (j : Nat) ls = some (.long x)) (kk : ExF G M k n (pc + 1) ls (.long x :: st) C p l e R s m args below meth c Qf) : ExF G M k n pc ls st C p l e R s m args below meth c Qf := by
  intro H locs cells slots lsA hr hL hc hs hv
  obtain ⟨hx, hb⟩ := id S
  exact lv_lload_n hx hb d rfl (hv.2.2 _ (lk_mem h)) (kk H locs cells slots lsA hr hL hc hs hv)
theorem f_aload_n {j : Fin 4} {x : Nat} (S : SiF M p c) (d : decode (mB M) pc = .ok (.aload_n j, 1)) (h : List.lookup (j : Nat) ls = some (.ref x)) (kk : ExF G M k n (pc + 1) ls (.ref x :: st) C p l e R s m args below meth c Qf) : ExF G M k n pc ls st C p l e R s m args below meth c Qf := by
  intro H locs cells slots lsA hr hL hc hs hv
  obtain ⟨hx, hb⟩ := id S
  exact lv_aload_n hx hb d rfl (hv.2.2 _ (lk_mem h)) (kk H locs cells slots lsA hr hL hc hs hv)
theorem f_aload {j : Nat} {x : Nat} (S : SiF M p c) (d : decode (mB M) pc = .ok (.aload j, 2)) (h : List.lookup j ls = some (.ref x)) (kk : ExF G M k n (pc + 2) ls (.ref x :: st) C p l e R s m args below meth c Qf) : ExF G M k n pc ls st C p l e R s m args below meth c Qf := by
  intro H locs cells slots lsA hr hL hc hs hv
  obtain ⟨hx, hb⟩ := id S
  exact lv_aload hx hb d (hv.2.2 _ (lk_mem h)) (kk H locs cells slots lsA hr hL hc hs hv)
end XF
/-- where E is caught, thrown at pc *)-/
def Hnd (G : GT) (M : MI) (hh : List (Nat × Nat × Nat × Nat)) (pc : Nat) (E : String) (hp : Nat) : Prop :=
  ∃ (pre : List ExceptionTableEntry) (x : ExceptionTableEntry) (suf : List ExceptionTableEntry) (name : String), tableOf hh = pre ++ x :: suf ∧ (∀ z ∈ pre, covers z pc = false ∨ (z.catchType ≠ 0 ∧ ∃ nm : String, Cond.classLink (mY M).cls z.catchType nm ∈ TT ∧ va_Nc E nm (gS G))) ∧ covers x pc = true ∧ x.catchType ≠ 0 ∧ Cond.classLink (mY M).cls x.catchType name ∈ TT ∧ Cond.castable E name ∈ lw_tbl ∧ x.handlerPc = hp
theorem cast_m {A args : Array Value} {u U : State} {a b : String} (h : (Cond.castable a b).before A u = true) (hvm : u.vm.Alike U.vm) : (Cond.castable a b).before args U = true := by
  obtain ⟨c1, c2, h1, h2, h3⟩ := Cond.castable_spec h
  rw [← hvm.findClass] at h1 h2
  rw [← hvm.assignable] at h3
  simp only [Cond.before, Cond.holds, Cond.value, h1, h2, h3]
  rfl
theorem f_callX {G : GT} {M : MI} {Q : QT} {k n pc : Nat} {ls : List (Nat × Value)} {st : List Value} {C : AH} {p : Program} {l : Launch} {e : Env} {R : Room} {s : State} {m : MethodId} {args : Array Value} {below : List Frame} {meth : Method} {c : Code} {Qf : State → Prop} {hh : List (Nat × Nat × Nat × Nat)} {idx np b : Nat} {Z : MI} {As rest : List Value} (κ : Nat)
    (S : Site G M p l R s m meth c) (E : Ends G M Q NX p l e R s m args below meth c Qf) (ht : c.exceptionTable.toList = tableOf hh) (hO : GO G) (d : decode (mB M) pc = .ok (.invokevirtual idx, 3)) (hm : mOk Z np) (hv2 : mV Z) (hl : Cond.methodLink (mY M).cls idx (mY Z) ∈ TT) (hf : frm M Z) (hK : gK C b = κ) (hκ : 1 ≤ κ ∧ κ < 20) (hcn : (vwCl[κ - 1]?).map (fun r => r.1) = some (mY Z).cls)
    (hk : mC Z ≤ k ∧ mS Z ≤ n) (hn : As.length = np) (hst : st = As.reverse ++ .ref b :: rest) (hrest : (rest.map fun v => v.category).sum ≤ 8)
    (hM : Mt G Z (.ref b :: As) C (fun v C' => Ex G M Q NX (k - mC Z) (n - mS Z) (pc + 3) ls (v.toList ++ rest) C') (fun E9 C' => ∃ hp, Hnd G M hh pc E9 hp ∧ ∀ q : Nat, Ex G M Q NX (k - mC Z) (n - mS Z) hp ls [.ref q] C')) : ExF G M k n pc ls st C p l e R s m args below meth c Qf := by
  subst hst
  intro H locs cells slots lsA hr hL hc hs hv
  obtain ⟨hl9, hR, hx, hb, hml, hown, hW, -⟩ := id S
  have hts := hts_G (args := args) hO hW
  have hR1 : R.cells = mC M := by rw [hR]; rfl
  have hR2 : R.slots = mS M := by rw [hR]; rfl
  subst hl9
  intro T hT X9
  rcases vx_runV ⟨hx, hb, hml, hown, hts⟩ hM ⟨callB_O hO S hm hf hl, hts _ hv2.1, hts _ hv2.2⟩ ⟨bl_O, rcv_O hO hW hr hK hκ hcn, pre_O hW hr⟩ (g := F0 m pc lsA (As.reverse ++ .ref b :: rest)) (rest := rest) (cells := cells) (slots := slots) (locs := locs) rfl hn hv.1 rfl (lv_room hrest) d (by omega) T hT X9 with ⟨v, st₀, t, T', L, h0, X', hL', e1, e2, ⟨v', C', hv', hq, hrep, hsz⟩, stp⟩ | ⟨q, st₀, t, T', L, E9, ce, h0, X', hL', e1, e2, ⟨C', ⟨hp, hH, hq⟩, hrep, hsz⟩, hce, hcv, hcl, stp⟩
  · cases hv'
    rw [h0] at hsz
    obtain ⟨t2, a1, b1⟩ := hq p (gL G) e R s m args below meth c Qf S E T'.heap (locs ++ L) (cells + mC Z) (slots + mS Z) lsA (by rw [e1]; exact hrep) (HL_app hL (by rw [e1]; exact hsz) hL') (by omega) (by omega) hv T' rfl X'
    exact ⟨t2, stp t2 a1, b1⟩
  · rw [h0] at hsz
    obtain ⟨pre, x, suf, name, g1, g2, g3, g4, g5, g6, g7⟩ := hH
    subst g7
    obtain ⟨t2, a1, b1⟩ := vx_catch (pc := pc) (ls := lsA) (rest := rest) (own := (mY M).cls) (name := name) hown pre x suf (ht.trans g1) (fun z hz => (g2 z hz).imp id fun h => ⟨h.1, h.2.elim fun nm h2 => ⟨nm, hts _ h2.1, h2.2.moved hW.alike⟩⟩) g3 g4 (hts _ g5) (by obtain ⟨A, hA⟩ := hO.1; exact cast_m (hA _ g6) hW.alike) (by rw [e1]; exact hce) hcv hcl
      (hq q p (gL G) e R s m args below meth c Qf S E T'.heap (locs ++ L) (cells + mC Z) (slots + mS Z) lsA (by rw [e1]; exact hrep) (HL_app hL (by rw [e1]; exact hsz) hL') (by omega) (by omega) hv) T' rfl X'
    exact ⟨t2, stp.trans a1, b1⟩
def MtH (G : GT) (M : MI) (hh : List (Nat × Nat × Nat × Nat)) (As : List Value) (C : AH) (Q : QT) : Prop :=
  vx_Met (gL G) (mY M) [Cond.codeWith (mY M) (mB M) (mL M) (mT M) hh] (rmO M) (va_Pc As (PcO G C)) (QcO G Q) (XcO G NX) (mC M) (mS M) (frO G)
theorem MtH_of {G : GT} {M : MI} {hh : List (Nat × Nat × Nat × Nat)} {As : List Value} {C : AH} {Q : QT} (hy : plainName (mY M).cls = true) (hn : (lg_sl As).length ≤ mL M)
    (h : ∀ (p : Program) (l : Launch) (e : Env) (R : Room) (s : State) (m : MethodId) (args : Array Value) (below : List Frame) (meth : Method) (c : Code) (Qf : State → Prop), SiF M p c → Site G M p l R s m meth c → Ends G M Q NX p l e R s m args below meth c Qf → c.exceptionTable.toList = tableOf hh → ExF G M (mC M) (mS M) 0 (lv_args 0 As) [] C p l e R s m args below meth c Qf) : MtH G M hh As C Q := by
  refine vx_ofWH (cc := mB M) (maxL := mL M) (ret := mT M) (hh := hh) hy rfl ?_
  intro p e s m args below meth c s₁ B hml hP
  have htab : c.exceptionTable.toList = tableOf hh := vx_table (x := mY M) B (atoms_spec B.pre _ List.mem_cons_self)
  obtain ⟨rfl, hr, hw⟩ := hP
  have S : Site G M p (gL G) (rmO M) s m meth c := ⟨rfl, rfl, B.exec, B.bytes, hml, findClass_of_methodNamed B.named, hw, B.notSynchronized, B.returns, (name_of_methodNamed B.named B.method).1, by rw [hr.1]; exact hr.2.1, hr.2.2.1⟩
  have hl := lv_entry As (n := mL M) hn
  rw [lg_entry_eq]
  exact h p (gL G) e (rmO M) s m _ below meth c _ ⟨B.exec, B.bytes⟩ S (ends_std S (Or.inl fun _ _ h => h)) htab s.heap [] 0 0 _ hr ⟨Nat.le_refl _, fun z hz => by cases hz⟩ (by omega) (by omega) hl
def mOkH (Z : MI) (hh : List (Nat × Nat × Nat × Nat)) (np : Nat) : Prop := Cond.codeWith (mY Z) (mB Z) (mL Z) (mT Z) hh ∈ TT ∧ Cond.initialized (mY Z).cls ∈ TT ∧ ((mY Z).cls ≠ "java/lang/invoke/MethodHandle" ∧ (mY Z).cls ≠ "java/lang/invoke/VarHandle") ∧ (parseMethodDescriptor (mY Z).desc).map (fun d => d.parameters.length) = some np
theorem mOkH_np {Z : MI} {hh : List (Nat × Nat × Nat × Nat)} {np : Nat} (h : mOkH Z hh np) : ∀ sig, parseMethodDescriptor (mY Z).desc = some sig → np = sig.parameters.length := by
  intro sig hs
  have h2 := h.2.2.2
  rw [hs] at h2
  exact (Option.some.inj h2).symm
theorem x_callSX {G : GT} {M : MI} {Q : QT} {k n pc : Nat} {ls : List (Nat × Value)} {st : List Value} {C : AH} {idx np : Nat} {Z : MI} {hh : List (Nat × Nat × Nat × Nat)} {As rest : List Value} (hO : GO G) (d : decode (mB M) pc = .ok (.invokestatic idx, 3)) (hm : mOkH Z hh np) (hv2 : Cond.static (mY Z) ∈ TT) (hl : Cond.methodLink (mY M).cls idx (mY Z) ∈ TT) (hf : frm M Z)
    (hk : mC Z ≤ k ∧ mS Z ≤ n) (hn : As.length = np) (hst : st = As.reverse ++ rest) (hrest : (rest.map fun v => v.category).sum ≤ 8)
    (hM : MtH G Z hh As C (fun v C' => Ex G M Q NX (k - mC Z) (n - mS Z) (pc + 3) ls (v.toList ++ rest) C')) : Ex G M Q NX k n pc ls st C := by
  subst hst
  refine x_run (a := As.toArray) (rest := rest) (Qz := fun v C' => Ex G M Q NX (k - mC Z) (n - mS Z) (pc + 3) ls (v.toList ++ rest) C') ?_ hk (fun v C' h => h)
  intro p l e R s m args below meth c S H locs cells slots lsA hr hL hc hs hv
  obtain ⟨hl9, hR, hx, hb, hml, hown, hW, -⟩ := id S
  have hts := hts_G (args := args) hO hW
  have hR1 : R.cells = mC M := by rw [hR]; rfl
  have hR2 : R.slots = mS M := by rw [hR]; rfl
  subst hl9
  subst hR
  have tt9 : ∀ w ∈ [Cond.codeWith (mY Z) (mB Z) (mL Z) (mT Z) hh], ∀ (a' : Array Value) (U : State), s.WarmedH U.vm → w.before a' U = true := by
    intro w hw a' U hU
    rw [List.mem_singleton] at hw
    subst hw
    exact tt_use hO.1 hm.1 (hW.trans hU)
  exact vx_runSX (hh := hh) ⟨hx, hb, hml, hown, hts⟩ hM ⟨⟨rfl, rfl, hf.1, hf.2, tt9, List.mem_cons_self⟩, hts _ hm.1, hts _ hm.2.1, hm.2.2.1, mOkH_np hm, hts _ hl, hts _ hv2⟩ ⟨bl_O, pre_O hW hr⟩ rfl hn hv.1 rfl (lv_room hrest) d (by omega)
