section XC9
variable {G : GT} {M : MI} {Q : QT} {X : XT} {k n pc : Nat} {ls : List (Nat × Value)} {st : List Value} {C : AH}
theorem x_run {Qz : QT} {kz nz : Nat} {rest st0 : List Value} {a : Array Value}
    (hrun : ∀ (p : Program) (l : Launch) (e : Env) (R : Room) (s : State) (m : MethodId) (args : Array Value) (below : List Frame) (meth : Method) (c : Code), Site G M p l R s m meth c → ∀ (H : Heap) (locs : List Loc) (cells slots : Nat) (lsA : Array Slot), RepH G C H → HL G s H locs → cells + k ≤ mC M → slots + n ≤ mS M → lv_has lsA (mL M) ls →
      vx_Run p l e R s m args below meth c H locs cells slots kz nz (F0 m pc lsA st0) rest (QcO G Qz a) (XcO G X) (frO G))
    (hk : kz ≤ k ∧ nz ≤ n) (kk : ∀ (v : Option Value) (C' : AH), Qz v C' → Ex G M Q X (k - kz) (n - nz) (pc + 3) ls (v.toList ++ rest) C') : Ex G M Q X k n pc ls st0 C := by
  intro p l e R s m args below meth c Qf S E H locs cells slots lsA hr hL hc hs hv
  intro T hT X9
  rcases hrun p l e R s m args below meth c S H locs cells slots lsA hr hL hc hs hv T hT X9 with ⟨v, st₀, t, T', L, h0, X', hL', e1, e2, ⟨v', C', hv', hq, hrep, hsz⟩, st⟩ | ⟨q, st₀, t, T', L, E9, ce, h0, X', hL', e1, e2, ⟨C', hx, hrep, hsz⟩, hce, hcv, hcl, st⟩
  · cases hv'
    rw [h0] at hsz
    obtain ⟨t2, a1, b1⟩ := kk v C' hq p l e R s m args below meth c Qf S E T'.heap (locs ++ L) (cells + kz) (slots + nz) lsA (by rw [e1]; exact hrep) (HL_app hL (by rw [e1]; exact hsz) hL') (by omega) (by omega) hv T' rfl X'
    exact ⟨t2, st t2 a1, b1⟩
  · rw [h0] at hsz
    obtain ⟨-, -, -, -, -, -, -, hlk, -⟩ := id S
    rcases E.2 with hno | ⟨htab, Qc, XC, rfl, hXC⟩
    · exact absurd hx (hno _ _)
    · have h9 := hL.1
      obtain ⟨t2, a1, b1⟩ := vx_out (pc := pc) (ls := lsA) (rest := rest) (Qc := Qc) (XC := XC) (mc := mC M) (ms := mS M) (free := frO G) (locs := locs ++ L) (cells := cells + kz) (slots := slots + nz) (fun x hx9 => absurd hx9 (fun h => htab x h)) hlk (by rw [e1]; exact hce) hcv hcl
        (fun t' ht' _ => hXC E9 C' t' hx (by rw [ht', e1]; exact hrep) (by rw [ht', e1]; omega)) (fun z hz => (List.mem_append.mp hz).elim (hL.2 z) (hL' z)) (by omega) (by omega) T' rfl X'
      exact ⟨t2, st.trans a1, b1⟩
/-- a callee by the tables: its code, its class ready, its arguments -/
def mOk (Z : MI) (np : Nat) : Prop := Cond.code (mY Z) (mB Z) (mL Z) (mT Z) ∈ TT ∧ Cond.initialized (mY Z).cls ∈ TT ∧ ((mY Z).cls ≠ "java/lang/invoke/MethodHandle" ∧ (mY Z).cls ≠ "java/lang/invoke/VarHandle") ∧ (parseMethodDescriptor (mY Z).desc).map (fun d => d.parameters.length) = some np
def mV (Z : MI) : Prop := Cond.instanceMethod (mY Z) ∈ TT ∧ Cond.selects (mY Z).cls (mY Z) (mY Z) ∈ TT
def frm (M Z : MI) : Prop := mF Z + 1 ≤ mF M ∧ 8 + (mL Z + 11) + mO Z ≤ mO M
theorem mOk_np {Z : MI} {np : Nat} (h : mOk Z np) : ∀ sig, parseMethodDescriptor (mY Z).desc = some sig → np = sig.parameters.length := by
  intro sig hs
  have h2 := h.2.2.2
  rw [hs] at h2
  exact (Option.some.inj h2).symm
theorem tt_all {G : GT} {s : State} {Z : MI} {np : Nat} (hO : GO G) (hW : (gS G).WarmedH s.vm) (h : mOk Z np) : ∀ w ∈ [Cond.code (mY Z) (mB Z) (mL Z) (mT Z)], ∀ (a' : Array Value) (U : State), s.WarmedH U.vm → w.before a' U = true := by
  intro w hw a' U hU
  rw [List.mem_singleton] at hw
  subst hw
  exact tt_use hO.1 h.1 (hW.trans hU)
theorem callB_O {G : GT} {M Z : MI} {np idx : Nat} {own : String} {p : Program} {l : Launch} {R : Room} {s : State} {m : MethodId} {args : Array Value} {meth : Method} {c : Code} (hO : GO G) (S : Site G M p l R s m meth c) (hm : mOk Z np) (hf : frm M Z) (hl : Cond.methodLink own idx (mY Z) ∈ TT) :
    CallB R s args own idx (mY Z) (mB Z) (mL Z) (mT Z) [Cond.code (mY Z) (mB Z) (mL Z) (mT Z)] (rmO Z) (mC Z) (mS Z) np := by
  obtain ⟨-, hR, -, -, -, -, hW, -⟩ := id S
  have hts := hts_G (args := args) hO hW
  subst hR
  exact ⟨rfl, rfl, hf.1, hf.2, tt_all hO hW hm, List.mem_cons_self, hts _ hm.1, hts _ hm.2.1, hm.2.2.1, mOk_np hm, hts _ hl⟩
theorem pre_O {G : GT} {C : AH} {H : Heap} {s : State} {As : List Value} (hW : (gS G).WarmedH s.vm) (hr : RepH G C H) : ∀ U : State, U.heap = H → s.WarmedH U.vm → va_Pc As (PcO G C) As.toArray U :=
  fun U hU hw => ⟨rfl, by rw [hU]; exact hr, hW.trans hw⟩
theorem rcv_O {G : GT} {C : AH} {H : Heap} {s : State} {b κ : Nat} {Cn : String} (hO : GO G) (hW : (gS G).WarmedH s.vm) (hr : RepH G C H) (hK : gK C b = κ) (hκ : 1 ≤ κ ∧ κ < 20) (hcn : (vwCl[κ - 1]?).map (fun r => r.1) = some Cn) :
    ∃ cellB : Cell, H[b]? = some cellB ∧ cellB.vm.isStatics = false ∧ s.vm.findClass Cn = some cellB.cls := by
  obtain ⟨r, q1, cell, q2, q3, q4, q5⟩ := (hr.2.2.2.1 b (by omega)).2.2.2.1 (by omega)
  rw [hK] at q1 q3
  rw [q1] at hcn
  cases hcn
  exact ⟨cell, q2, by rw [q4]; rfl, by rw [q3]; exact ((va_KG hO hW).1 _ _ q1).2.1⟩
theorem x_callV {idx np b : Nat} {Z : MI} {As rest : List Value} (κ : Nat) (hO : GO G) (d : decode (mB M) pc = .ok (.invokevirtual idx, 3)) (hm : mOk Z np) (hv2 : mV Z) (hl : Cond.methodLink (mY M).cls idx (mY Z) ∈ TT) (hf : frm M Z) (hK : gK C b = κ) (hκ : 1 ≤ κ ∧ κ < 20) (hcn : (vwCl[κ - 1]?).map (fun r => r.1) = some (mY Z).cls)
    (hk : mC Z ≤ k ∧ mS Z ≤ n) (hn : As.length = np) (hst : st = As.reverse ++ .ref b :: rest) (hrest : (rest.map fun v => v.category).sum ≤ 8)
    (hM : Mt G Z (.ref b :: As) C (fun v C' => Ex G M Q X (k - mC Z) (n - mS Z) (pc + 3) ls (v.toList ++ rest) C') X) : Ex G M Q X k n pc ls st C := by
  subst hst
  refine x_run (a := (Value.ref b :: As).toArray) (rest := rest) (Qz := fun v C' => Ex G M Q X (k - mC Z) (n - mS Z) (pc + 3) ls (v.toList ++ rest) C') ?_ hk (fun v C' h => h)
  intro p l e R s m args below meth c S H locs cells slots lsA hr hL hc hs hv
  obtain ⟨hl9, hR, hx, hb, hml, hown, hW, -⟩ := id S
  have hts := hts_G (args := args) hO hW
  have hR1 : R.cells = mC M := by rw [hR]; rfl
  have hR2 : R.slots = mS M := by rw [hR]; rfl
  subst hl9
  exact vx_runV ⟨hx, hb, hml, hown, hts⟩ hM ⟨callB_O hO S hm hf hl, hts _ hv2.1, hts _ hv2.2⟩ ⟨bl_O, rcv_O hO hW hr hK hκ hcn, pre_O hW hr⟩ rfl hn hv.1 rfl (lv_room hrest) d (by omega)
theorem x_callS {idx np : Nat} {Z : MI} {As rest : List Value} (hO : GO G) (d : decode (mB M) pc = .ok (.invokestatic idx, 3)) (hm : mOk Z np) (hv2 : Cond.static (mY Z) ∈ TT) (hl : Cond.methodLink (mY M).cls idx (mY Z) ∈ TT) (hf : frm M Z)
    (hk : mC Z ≤ k ∧ mS Z ≤ n) (hn : As.length = np) (hst : st = As.reverse ++ rest) (hrest : (rest.map fun v => v.category).sum ≤ 8)
    (hM : Mt G Z As C (fun v C' => Ex G M Q X (k - mC Z) (n - mS Z) (pc + 3) ls (v.toList ++ rest) C') X) : Ex G M Q X k n pc ls st C := by
  subst hst
  refine x_run (a := As.toArray) (rest := rest) (Qz := fun v C' => Ex G M Q X (k - mC Z) (n - mS Z) (pc + 3) ls (v.toList ++ rest) C') ?_ hk (fun v C' h => h)
  intro p l e R s m args below meth c S H locs cells slots lsA hr hL hc hs hv
  obtain ⟨hl9, hR, hx, hb, hml, hown, hW, -⟩ := id S
  have hts := hts_G (args := args) hO hW
  have hR1 : R.cells = mC M := by rw [hR]; rfl
  have hR2 : R.slots = mS M := by rw [hR]; rfl
  subst hl9
  exact vx_runS ⟨hx, hb, hml, hown, hts⟩ hM ⟨callB_O hO S hm hf hl, hts _ hv2⟩ ⟨bl_O, pre_O hW hr⟩ rfl hn hv.1 rfl (lv_room hrest) d (by omega)
theorem x_callI {idx np b : Nat} {Z : MI} {As rest : List Value} (hO : GO G) (d : decode (mB M) pc = .ok (.invokespecial idx, 3)) (hm : mOk Z np) (hT : mT Z = none) (hi : (mY Z).name = "<init>") (hv2 : Cond.instanceMethod (mY Z) ∈ TT) (hl : Cond.methodLink (mY M).cls idx (mY Z) ∈ TT) (hf : frm M Z)
    (hk : mC Z ≤ k ∧ mS Z ≤ n) (hn : As.length = np) (hst : st = As.reverse ++ .ref b :: rest) (hrest : (rest.map fun v => v.category).sum ≤ 8)
    (hM : Mt G Z (.ref b :: As) C (fun v C' => Ex G M Q X (k - mC Z) (n - mS Z) (pc + 3) ls (v.toList ++ rest) C') X) : Ex G M Q X k n pc ls st C := by
  subst hst
  refine x_run (a := (Value.ref b :: As).toArray) (rest := rest) (Qz := fun v C' => Ex G M Q X (k - mC Z) (n - mS Z) (pc + 3) ls (v.toList ++ rest) C') ?_ hk (fun v C' h => h)
  intro p l e R s m args below meth c S H locs cells slots lsA hr hL hc hs hv
  obtain ⟨hl9, hR, hx, hb, hml, hown, hW, -⟩ := id S
  have hts := hts_G (args := args) hO hW
  have hR1 : R.cells = mC M := by rw [hR]; rfl
  have hR2 : R.slots = mS M := by rw [hR]; rfl
  subst hl9
  have hcb := callB_O (args := args) hO S hm hf hl
  unfold Mt at hM
  rw [hT] at hM hcb
  exact vx_runI ⟨hx, hb, hml, hown, hts⟩ hM ⟨hcb, hi, hts _ hv2⟩ ⟨bl_O, pre_O hW hr⟩ rfl hn hv.1 rfl (lv_room hrest) d (by omega)
/-- calls of a nest mate's private members: the link is a premise of its own -/
def nS (G : GT) (own : String) (idx : Nat) (Z : MI) (host : String) : Prop := va_Nw (.methodLinkNest own idx (mY Z) host) (gS G)
theorem cn_O {G : GT} {M Z : MI} {np idx : Nat} {own host : String} {p : Program} {l : Launch} {R : Room} {s : State} {m : MethodId} {args : Array Value} {meth : Method} {c : Code} (hO : GO G) (S : Site G M p l R s m meth c) (hm : mOk Z np) (hf : frm M Z) (hl : nS G own idx Z host) :
    va_CN R s args own idx (mY Z) host (mB Z) (mL Z) (mT Z) [Cond.code (mY Z) (mB Z) (mL Z) (mT Z)] (rmO Z) (mC Z) (mS Z) np := by
  obtain ⟨-, hR, -, -, -, -, hW, -⟩ := id S
  have hts := hts_G (args := args) hO hW
  subst hR
  exact ⟨⟨rfl, rfl, hf.1, hf.2, tt_all hO hW hm, List.mem_cons_self⟩, hts _ hm.1, hts _ hm.2.1, hm.2.2.1, mOk_np hm, va_Nw.use rfl (va_Nw.warmM hW hl)⟩
theorem x_callVN {idx np b : Nat} {Z : MI} {host : String} {As rest : List Value} (κ : Nat) (hO : GO G) (d : decode (mB M) pc = .ok (.invokevirtual idx, 3)) (hm : mOk Z np) (hv2 : mV Z) (hl : nS G (mY M).cls idx Z host) (hf : frm M Z) (hK : gK C b = κ) (hκ : 1 ≤ κ ∧ κ < 20) (hcn : (vwCl[κ - 1]?).map (fun r => r.1) = some (mY Z).cls)
    (hk : mC Z ≤ k ∧ mS Z ≤ n) (hn : As.length = np) (hst : st = As.reverse ++ .ref b :: rest) (hrest : (rest.map fun v => v.category).sum ≤ 8)
    (hM : Mt G Z (.ref b :: As) C (fun v C' => Ex G M Q X (k - mC Z) (n - mS Z) (pc + 3) ls (v.toList ++ rest) C') X) : Ex G M Q X k n pc ls st C := by
  subst hst
  refine x_run (a := (Value.ref b :: As).toArray) (rest := rest) (Qz := fun v C' => Ex G M Q X (k - mC Z) (n - mS Z) (pc + 3) ls (v.toList ++ rest) C') ?_ hk (fun v C' h => h)
  intro p l e R s m args below meth c S H locs cells slots lsA hr hL hc hs hv
  obtain ⟨hl9, hR, hx, hb, hml, hown, hW, -⟩ := id S
  have hts := hts_G (args := args) hO hW
  have hR1 : R.cells = mC M := by rw [hR]; rfl
  have hR2 : R.slots = mS M := by rw [hR]; rfl
  subst hl9
  exact vx_runVN ⟨hx, hb, hml, hown, hts⟩ hM ⟨cn_O hO S hm hf hl, hts _ hv2.1, hts _ hv2.2⟩ ⟨bl_O, rcv_O hO hW hr hK hκ hcn, pre_O hW hr⟩ rfl hn hv.1 rfl (lv_room hrest) d (by omega)
theorem x_callSN {idx np : Nat} {Z : MI} {host : String} {As rest : List Value} (hO : GO G) (d : decode (mB M) pc = .ok (.invokestatic idx, 3)) (hm : mOk Z np) (hv2 : Cond.static (mY Z) ∈ TT) (hl : nS G (mY M).cls idx Z host) (hf : frm M Z)
    (hk : mC Z ≤ k ∧ mS Z ≤ n) (hn : As.length = np) (hst : st = As.reverse ++ rest) (hrest : (rest.map fun v => v.category).sum ≤ 8)
    (hM : Mt G Z As C (fun v C' => Ex G M Q X (k - mC Z) (n - mS Z) (pc + 3) ls (v.toList ++ rest) C') X) : Ex G M Q X k n pc ls st C := by
  subst hst
  refine x_run (a := As.toArray) (rest := rest) (Qz := fun v C' => Ex G M Q X (k - mC Z) (n - mS Z) (pc + 3) ls (v.toList ++ rest) C') ?_ hk (fun v C' h => h)
  intro p l e R s m args below meth c S H locs cells slots lsA hr hL hc hs hv
  obtain ⟨hl9, hR, hx, hb, hml, hown, hW, -⟩ := id S
  have hts := hts_G (args := args) hO hW
  have hR1 : R.cells = mC M := by rw [hR]; rfl
  have hR2 : R.slots = mS M := by rw [hR]; rfl
  subst hl9
  exact vx_runSN ⟨hx, hb, hml, hown, hts⟩ hM ⟨cn_O hO S hm hf hl, hts _ hv2, trivial⟩ ⟨bl_O, pre_O hW hr⟩ rfl hn hv.1 rfl (lv_room hrest) d (by omega)
theorem x_callIN {idx np b : Nat} {Z : MI} {host : String} {As rest : List Value} (hO : GO G) (d : decode (mB M) pc = .ok (.invokespecial idx, 3)) (hm : mOk Z np) (hT : mT Z = none) (hi : (mY Z).name = "<init>") (hv2 : Cond.instanceMethod (mY Z) ∈ TT) (hl : nS G (mY M).cls idx Z host) (hf : frm M Z)
    (hk : mC Z ≤ k ∧ mS Z ≤ n) (hn : As.length = np) (hst : st = As.reverse ++ .ref b :: rest) (hrest : (rest.map fun v => v.category).sum ≤ 8)
    (hM : Mt G Z (.ref b :: As) C (fun v C' => Ex G M Q X (k - mC Z) (n - mS Z) (pc + 3) ls (v.toList ++ rest) C') X) : Ex G M Q X k n pc ls st C := by
  subst hst
  refine x_run (a := (Value.ref b :: As).toArray) (rest := rest) (Qz := fun v C' => Ex G M Q X (k - mC Z) (n - mS Z) (pc + 3) ls (v.toList ++ rest) C') ?_ hk (fun v C' h => h)
  intro p l e R s m args below meth c S H locs cells slots lsA hr hL hc hs hv
  obtain ⟨hl9, hR, hx, hb, hml, hown, hW, -⟩ := id S
  have hts := hts_G (args := args) hO hW
  have hR1 : R.cells = mC M := by rw [hR]; rfl
  have hR2 : R.slots = mS M := by rw [hR]; rfl
  subst hl9
  have hcb := cn_O (args := args) hO S hm hf hl
  unfold Mt at hM
  rw [hT] at hM hcb
  exact vx_runIN ⟨hx, hb, hml, hown, hts⟩ hM ⟨hcb, hi, hts _ hv2⟩ ⟨bl_O, pre_O hW hr⟩ rfl hn hv.1 rfl (lv_room hrest) d (by omega)
/-- Object.<init> -/
theorem x_objI {idx b : Nat} {rest : List Value} (hO : GO G) (d : decode (mB M) pc = .ok (.invokespecial idx, 3)) (w1 : Cond.methodLink (mY M).cls idx objectInit ∈ TT) (w2 : Cond.instanceMethod objectInit ∈ TT) (w3 : Cond.code objectInit ⟨#[0xb1]⟩ 1 none ∈ TT) (hf : 1 ≤ mF M ∧ 20 ≤ mO M) (hrest : (rest.map fun v => v.category).sum ≤ 8)
    (kk : Ex G M Q X k n (pc + 3) ls rest C) : Ex G M Q X k n pc ls (.ref b :: rest) C := by
  intro p l e R s m args below meth c Qf S E H locs cells slots lsA hr hL hc hs hv
  obtain ⟨-, hR, hx, hb, hml, hown, hW, -⟩ := id S
  have hts := hts_G (args := args) hO hW
  have hR1 : R.frames = mF M := by rw [hR]; rfl
  have hR2 : R.locals = mO M := by rw [hR]; rfl
  exact W.objInit hx hb hown (hts _ w1) (hts _ w2) (hts _ w3) rfl (by rw [hml]; exact hv.1) rfl d (by omega) (by show 2 * 0 + _ + 12 ≤ _; omega) (kk p l e R s m args below meth c Qf S E H locs cells slots lsA hr hL hc hs hv)
/-- int[] to int[] by System.arraycopy -/
theorem x_copyi {idx a0 a1 sj dj mj N0 N1 : Nat} {sp dp m9 : Int32} {rest : List Value} (hO : GO G) (d : decode (mB M) pc = .ok (.invokestatic idx, 3)) (w1 : Cond.methodLink (mY M).cls idx arraycopyName ∈ TT) (w2 : Cond.native arraycopyName ∈ TT) (w3 : Cond.static arraycopyName ∈ TT) (w4 : Cond.initialized "java/lang/System" ∈ TT)
    (hK0 : gK C a0 = 20) (hK1 : gK C a1 = 20) (e1 : sp = nI sj) (e2 : dp = nI dj) (e3 : m9 = nI mj) (hn0 : gN C a0 = N0) (hn1 : gN C a1 = N1) (h0 : sj + mj ≤ N0) (h1 : dj + mj ≤ N1) (hN0 : N0 < 2147483648) (hN1 : N1 < 2147483648) (hf : 1 ≤ mF M ∧ 8 + (nativeFrameWords "java/lang/System" "arraycopy" 5 + 11) ≤ mO M) (hrest : (rest.map fun v => v.category).sum ≤ 8)
    (kk : Ex G M Q X k n (pc + 3) ls rest (wI C (fun b j => if b = a1 then va_cpy (gI C a0) (gI C a1) sj dj mj j else gI C b j))) : Ex G M Q X k n pc ls (.int m9 :: .int dp :: .ref a1 :: .int sp :: .ref a0 :: rest) C := by
  intro p l e R s m args below meth c Qf S E H locs cells slots lsA hr hL hc hs hv
  obtain ⟨-, hR, hx, hb, hml, hown, hW, -⟩ := id S
  have hts := hts_G (args := args) hO hW
  have hR1 : R.frames = mF M := by rw [hR]; rfl
  have hR2 : R.locals = mO M := by rw [hR]; rfl
  have hc0 := arr_cell hr hK0 (by omega)
  have hc1 := arr_cell hr hK1 (by omega)
  have hne : gK C a1 ≠ 0 := by omega
  have hge := (hr.2.2.2.1 a1 hne).1
  have s1 : sp.toNatClampNeg = sj := by rw [e1]; exact nI_clamp (by omega)
  have s2 : dp.toNatClampNeg = dj := by rw [e2]; exact nI_clamp (by omega)
  have s3 : m9.toNatClampNeg = mj := by rw [e3]; exact nI_clamp (by omega)
  have f0 : arrV (gA G 20) (gN C a0) (aV C 20 a0) = vp_cell (gA G 20) (N0, .inl (gI C a0)) := by rw [hn0]; rfl
  have f1 : arrV (gA G 20) (gN C a1) (aV C 20 a1) = vp_cell (gA G 20) (N1, .inl (gI C a1)) := by rw [hn1]; rfl
  rw [f0] at hc0
  rw [f1] at hc1
  have hk9 := va_KG hO hW
  intro T hT X9
  have hS : va_S (fun q => q = a1) H H [] := va_S.rf
  obtain ⟨-, k0, hk0, cm0, hkk0⟩ := (hk9.2 0 _ rfl).1 N0 (fun j => .int (gI C a0 j))
  have nn : ∀ z : Int32, ∀ j : Nat, j < 2147483648 → z = nI j → ¬ z < 0 ∧ z.toInt = (j : Int) := by
    intro z j hj hz
    subst hz
    exact ⟨nI_pos hj, nI_toInt hj⟩
  obtain ⟨vm', X', step⟩ := X9.arraycopy hx hown (hts _ w1) (hts _ w2) (hts _ w3) (hts _ w4) (src := a0) (dst := a1) (cs := vp_cell (gA G 20) (N0, .inl (gI C a0))) (cd := vp_cell (gA G 20) (N1, .inl (gI C a1))) (srcPos := sp) (destPos := dp) (n := m9) (by rw [hT]; exact hc0) (by rw [hT]; exact hc1)
    (fun _ h => by cases h) (fun _ h => by cases h) (fun h => by cases h) (fun h => by cases h) hk0 hk0 hkk0 hkk0 (by simp [refKind]) (nn sp sj (by omega) e1).1 (nn dp dj (by omega) e2).1 (nn m9 mj (by omega) e3).1
    (by rw [(nn sp sj (by omega) e1).2, (nn m9 mj (by omega) e3).2]; show ¬ _ > ((arrV (gA G 20) N0 (fun j => .int (gI C a0 j))).slots.size : Int); rw [arrV_size]; omega)
    (by rw [(nn dp dj (by omega) e2).2, (nn m9 mj (by omega) e3).2]; show ¬ _ > ((arrV (gA G 20) N1 (fun j => .int (gI C a1 j))).slots.size : Int); rw [arrV_size]; omega)
    (fun vm₁ _ i hi => by
      have e : (vp_cell (gA G 20) (N0, .inl (gI C a0))).slots.getD (sp.toNatClampNeg + i) .null = .int (gI C a0 (sp.toNatClampNeg + i)) := by
        show (arrV (gA G 20) N0 (fun j => .int (gI C a0 j))).slots.getD _ _ = _
        rw [Array.getD_eq_getD_getElem?, arrV_read _ _ (by omega)]
        rfl
      refine ⟨?_, ?_⟩
      · rw [e]; rfl
      · rw [e]; exact trivial)
    (g := F0 m pc lsA (.int m9 :: .int dp :: .ref a1 :: .int sp :: .ref a0 :: rest)) rfl (by show lsA.size = _; rw [hml]; exact hv.1) (rest := rest) rfl (by rw [hb]; exact d) (by omega) (by show 2 * 0 + _ + _ ≤ _; omega)
  have ec : copied (vp_cell (gA G 20) (N0, .inl (gI C a0))) (vp_cell (gA G 20) (N1, .inl (gI C a1))) sp dp m9 = vp_cell (gA G 20) (N1, .inl (va_cpy (gI C a0) (gI C a1) sp.toNatClampNeg dp.toNatClampNeg m9.toNatClampNeg)) := va_copied (fun z => .int z) (gA G 20) (gA G 20) (gI C a0) (gI C a1) (by omega)
  rw [ec] at X' step
  have hl : a1 < H.size := (Array.getElem?_eq_some_iff.mp hc1).1
  have hheap : ((T.setVm vm').setCell a1 (vp_cell (gA G 20) (N1, .inl (va_cpy (gI C a0) (gI C a1) sp.toNatClampNeg dp.toNatClampNeg m9.toNatClampNeg)))).heap = H.setIfInBounds a1 (vp_cell (gA G 20) (N1, .inl (va_cpy (gI C a0) (gI C a1) sp.toNatClampNeg dp.toNatClampNeg m9.toNatClampNeg))) := by rw [← hT]; rfl
  have oq : ∀ q : Nat, q ≠ a1 → (H.setIfInBounds a1 (vp_cell (gA G 20) (N1, .inl (va_cpy (gI C a0) (gI C a1) sp.toNatClampNeg dp.toNatClampNeg m9.toNatClampNeg))))[q]? = H[q]? := fun q hq => by simp [Array.getElem?_setIfInBounds, Ne.symm hq]
  obtain ⟨t, a1', b1⟩ := kk p l e R s m args below meth c Qf S E _ _ cells slots lsA (rep_one hr rfl rfl rfl (by simp) oq hne (fun b hb => funext fun j => if_neg hb) (fun _ _ => rfl) (fun _ _ => rfl) ⟨fun h => by omega, fun _ => by
      rw [hK1, gN_wI, hn1]
      rw [show (H.setIfInBounds a1 (vp_cell (gA G 20) (N1, .inl (va_cpy (gI C a0) (gI C a1) sp.toNatClampNeg dp.toNatClampNeg m9.toNatClampNeg))))[a1]? = some (vp_cell (gA G 20) (N1, .inl (va_cpy (gI C a0) (gI C a1) sp.toNatClampNeg dp.toNatClampNeg m9.toNatClampNeg))) by simp [Array.getElem?_setIfInBounds, hl], s1, s2, s3]
      refine congrArg some ?_
      show arrV (gA G 20) N1 (fun j => .int (va_cpy (gI C a0) (gI C a1) sj dj mj j)) = _
      refine congrArg (arrV (gA G 20) N1) (funext fun q => ?_)
      simp [aV, gI_wI]⟩ (fun j hj => by rw [hK1] at hj; cases hj)) (HL_app hL (by simp) (fun z hz => by
        obtain ⟨i, -, hz2⟩ := List.mem_map.mp hz
        rw [← hz2]
        exact hge)) hc hs hv _ hheap X'
  exact ⟨t, step t a1', b1⟩
end XC9
