/-! WHAT LAY THERE AT THE START: statics, Strings, the law's script *)-/
def eT (G : GT) (ty : FieldType) (t N : Nat) (f : Nat → Value) : Prop := va_T ty t N f (frO G) (gS G) (gS G).heap
def eZ (G : GT) (Cn n d : String) (v : Value) : Prop := va_Z Cn n d v (frO G) (gS G) (gS G).heap
def eO (G : GT) (E : String) (t : Nat) : Prop := va_O E t (frO G) (gS G) (gS G).heap
def eF (G : GT) (o n d : String) (v : Value) (t : Nat) : Prop := va_OF o n d v t (frO G) (gS G) (gS G).heap
def eR (G : GT) (own : String) (k : Nat) (tx : String) (a : Nat) : Prop := vk_R own k tx a (gS G)
/-- a throw's own words: no traces; where UNASSIGNED_STACK and SUPPRESSED_SENTINEL lie -/
def eX (G : GT) : Prop := (gL G).stackTraces = false ∧ vx_Zq Bundle.tN "UNASSIGNED_STACK" Bundle.steD (frO G) (gS G) (gS G).heap ∧ vx_Zq Bundle.tN "SUPPRESSED_SENTINEL" Bundle.listD (frO G) (gS G) (gS G).heap
section XE
variable {G : GT} {M : MI} {Q : QT} {X : XT} {k n pc : Nat} {ls : List (Nat × Value)} {st : List Value} {C : AH}
theorem kp_O {G : GT} {s : State} (h : ∀ q : Nat, q < gB G → s.heap[q]? = (gS G).heap[q]?) : ∀ a : Nat, a < (gS G).heap.size → ¬ frO G a → s.heap[a]? = (gS G).heap[a]? := fun a h1 _ => h a h1
theorem S_O {G : GT} {C : AH} {H : Heap} {s : State} {locs : List Loc} (hr : RepH G C H) (hL : HL G s H locs) (h : ∀ q : Nat, q < gB G → s.heap[q]? = (gS G).heap[q]?) : va_S (frO G) s.heap H locs :=
  ⟨hL.1, fun q _ h2 => by
    have h3 : q < gB G := Nat.lt_of_not_le h2
    rw [h q h3]
    exact hr.2.2.1 q h3, hL.2⟩
theorem x_getsZ {idx : Nat} {Cn n9 d9 : String} {v : Value} (hO : GO G) (hZ : eZ G Cn n9 d9 v) (d : decode (mB M) pc = .ok (.getstatic idx, 3)) (w1 : Cond.fieldLink (mY M).cls idx Cn n9 d9 ∈ TT) (kk : Ex G M Q X k n (pc + 3) ls (v :: st) C) : Ex G M Q X k n pc ls st C := by
  intro p l e R s m args below meth c Qf S E H locs cells slots lsA hr hL hc hs hv
  obtain ⟨-, -, hx, hb, -, hown, hW, -, -, -, -, hlow⟩ := id S
  exact va_gets hx hb ((va_Z.moved hW.alike hZ).kept (kp_O hlow)) (S_O hr hL hlow) hown (hts_G (args := args) hO hW _ w1) (fun _ h => h) d (kk p l e R s m args below meth c Qf S E H locs cells slots lsA hr hL hc hs hv)
theorem x_getsN {idx : Nat} {Cn n9 d9 host : String} {v : Value} (hO : GO G) (hZ : eZ G Cn n9 d9 v) (d : decode (mB M) pc = .ok (.getstatic idx, 3)) (w1 : va_Nw (.fieldLinkNest (mY M).cls idx Cn n9 d9 host) (gS G)) (kk : Ex G M Q X k n (pc + 3) ls (v :: st) C) : Ex G M Q X k n pc ls st C := by
  intro p l e R s m args below meth c Qf S E H locs cells slots lsA hr hL hc hs hv
  obtain ⟨-, -, hx, hb, -, hown, hW, -, -, -, -, hlow⟩ := id S
  exact va_getsN hx hb ((va_Z.moved hW.alike hZ).kept (kp_O hlow)) (S_O hr hL hlow) hown (va_Nw.use rfl (va_Nw.warmF hW w1)) (fun _ h => h) d (kk p l e R s m args below meth c Qf S E H locs cells slots lsA hr hL hc hs hv)
theorem x_tald {t N : Nat} {f : Nat → Int32} {i : Int32} (j : Nat) (hT : eT G .int t N (fun j => .int (f j))) (d : decode (mB M) pc = .ok (.iaload, 1)) (hi : i = nI j) (hj : j < N) (hN : N < 2147483648) (kk : Ex G M Q X k n (pc + 1) ls (.int (f j) :: st) C) : Ex G M Q X k n pc ls (.int i :: .ref t :: st) C := by
  intro p l e R s m args below meth c Qf S E H locs cells slots lsA hr hL hc hs hv
  obtain ⟨-, -, hx, hb, -, hown, hW, -, -, -, -, hlow⟩ := id S
  exact va_ti hx hb ((va_T.moved hW.alike hT).kept (kp_O hlow)) (S_O hr hL hlow) (nI_in2 hi hj hN) (by rw [nI_cl2 hi hj hN]) d (kk p l e R s m args below meth c Qf S E H locs cells slots lsA hr hL hc hs hv)
theorem x_tbld {t N : Nat} {f : Nat → Int32} {i : Int32} (j : Nat) (hT : eT G .byte t N (fun j => .int (f j))) (d : decode (mB M) pc = .ok (.baload, 1)) (hi : i = nI j) (hj : j < N) (hN : N < 2147483648) (kk : Ex G M Q X k n (pc + 1) ls (.int (f j) :: st) C) : Ex G M Q X k n pc ls (.int i :: .ref t :: st) C := by
  intro p l e R s m args below meth c Qf S E H locs cells slots lsA hr hL hc hs hv
  obtain ⟨-, -, hx, hb, -, hown, hW, -, -, -, -, hlow⟩ := id S
  exact va_tb hx hb ((va_T.moved hW.alike hT).kept (kp_O hlow)) (S_O hr hL hlow) (nI_in2 hi hj hN) (by rw [nI_cl2 hi hj hN]) d (kk p l e R s m args below meth c Qf S E H locs cells slots lsA hr hL hc hs hv)
theorem x_tlen {ty : FieldType} {t N : Nat} {f : Nat → Value} (hT : eT G ty t N f) (d : decode (mB M) pc = .ok (.arraylength, 1)) (kk : Ex G M Q X k n (pc + 1) ls (.int (nI N) :: st) C) : Ex G M Q X k n pc ls (.ref t :: st) C := by
  intro p l e R s m args below meth c Qf S E H locs cells slots lsA hr hL hc hs hv
  obtain ⟨-, -, hx, hb, -, hown, hW, -, -, -, -, hlow⟩ := id S
  exact va_tlen hx hb ((va_T.moved hW.alike hT).kept (kp_O hlow)) (S_O hr hL hlow) rfl d (kk p l e R s m args below meth c Qf S E H locs cells slots lsA hr hL hc hs hv)
theorem x_getE {idx q : Nat} {o n9 d9 : String} {v : Value} (hO : GO G) (hE : eF G o n9 d9 v q) (d : decode (mB M) pc = .ok (.getfield idx, 3)) (w1 : Cond.fieldLink (mY M).cls idx o n9 d9 ∈ TT) (kk : Ex G M Q X k n (pc + 3) ls (v :: st) C) : Ex G M Q X k n pc ls (.ref q :: st) C := by
  intro p l e R s m args below meth c Qf S E H locs cells slots lsA hr hL hc hs hv
  obtain ⟨-, -, hx, hb, -, hown, hW, -, -, -, -, hlow⟩ := id S
  exact vk_getf hx hb ((va_OF.moved hW.alike hE).kept (kp_O hlow)) (S_O hr hL hlow) hown (hts_G (args := args) hO hW _ w1) (fun _ h => h) d (kk p l e R s m args below meth c Qf S E H locs cells slots lsA hr hL hc hs hv)
theorem x_ldcS {idx q : Nat} {tx : String} (hZ : eR G (mY M).cls idx tx q) (d : decode (mB M) pc = .ok (.ldc idx, 2)) (kk : Ex G M Q X k n (pc + 2) ls (.ref q :: st) C) : Ex G M Q X k n pc ls st C := by
  intro p l e R s m args below meth c Qf S E H locs cells slots lsA hr hL hc hs hv
  obtain ⟨-, -, hx, hb, -, hown, hW, -⟩ := id S
  exact va_ldcS hx hb hown (vk_R.warm hW hZ) d (kk p l e R s m args below meth c Qf S E H locs cells slots lsA hr hL hc hs hv)
/-- a call by an object that lay there -/
theorem x_callVE {idx np b : Nat} {Z : MI} {As rest : List Value} (hO : GO G) (d : decode (mB M) pc = .ok (.invokevirtual idx, 3)) (hm : mOk Z np) (hv2 : mV Z) (hl : Cond.methodLink (mY M).cls idx (mY Z) ∈ TT) (hf : frm M Z) (hE : eO G (mY Z).cls b)
    (hk : mC Z ≤ k ∧ mS Z ≤ n) (hn : As.length = np) (hst : st = As.reverse ++ .ref b :: rest) (hrest : (rest.map fun v => v.category).sum ≤ 8)
    (hM : Mt G Z (.ref b :: As) C (fun v C' => Ex G M Q X (k - mC Z) (n - mS Z) (pc + 3) ls (v.toList ++ rest) C') X) : Ex G M Q X k n pc ls st C := by
  subst hst
  refine x_run (a := (Value.ref b :: As).toArray) (rest := rest) (Qz := fun v C' => Ex G M Q X (k - mC Z) (n - mS Z) (pc + 3) ls (v.toList ++ rest) C') ?_ hk (fun v C' h => h)
  intro p l e R s m args below meth c S H locs cells slots lsA hr hL hc hs hv
  obtain ⟨hl9, hR, hx, hb, hml, hown, hW, -, -, -, -, hlow⟩ := id S
  have hts := hts_G (args := args) hO hW
  have hR1 : R.cells = mC M := by rw [hR]; rfl
  have hR2 : R.slots = mS M := by rw [hR]; rfl
  subst hl9
  obtain ⟨cell, q1, q2, q3, q4⟩ := (va_O.moved hW.alike hE).kept (kp_O hlow)
  have q5 : H[b]? = some cell := by rw [(S_O hr hL hlow).2.1 b (Array.getElem?_eq_some_iff.mp q1).1 q4]; exact q1
  exact vx_runV ⟨hx, hb, hml, hown, hts⟩ hM ⟨callB_O hO S hm hf hl, hts _ hv2.1, hts _ hv2.2⟩ ⟨bl_O, ⟨cell, q5, q2, q3⟩, pre_O hW hr⟩ rfl hn hv.1 rfl (lv_room hrest) d (by omega)
/-- byte[] of a String that lay there, into a byte[] of ours -/
theorem x_copyt {idx b0 a1 sj dj mj N0 N1 : Nat} {f : Nat → Int32} {sp dp m9 : Int32} {rest : List Value} (hO : GO G) (d : decode (mB M) pc = .ok (.invokestatic idx, 3)) (w1 : Cond.methodLink (mY M).cls idx arraycopyName ∈ TT) (w2 : Cond.native arraycopyName ∈ TT) (w3 : Cond.static arraycopyName ∈ TT) (w4 : Cond.initialized "java/lang/System" ∈ TT)
    (hX : eT G .byte b0 N0 (fun j => .int (f j))) (hK1 : gK C a1 = 23) (e1 : sp = nI sj) (e2 : dp = nI dj) (e3 : m9 = nI mj) (hn1 : gN C a1 = N1) (h0 : sj + mj ≤ N0) (h1 : dj + mj ≤ N1) (hN0 : N0 < 2147483648) (hN1 : N1 < 2147483648) (hfit : ∀ i : Nat, i < mj → fits .byte (.int (f (sj + i))) = true) (hf : 1 ≤ mF M ∧ 8 + (nativeFrameWords "java/lang/System" "arraycopy" 5 + 11) ≤ mO M) (hrest : (rest.map fun v => v.category).sum ≤ 8)
    (kk : Ex G M Q X k n (pc + 3) ls rest (wI C (fun b j => if b = a1 then va_cpy f (gI C a1) sj dj mj j else gI C b j))) : Ex G M Q X k n pc ls (.int m9 :: .int dp :: .ref a1 :: .int sp :: .ref b0 :: rest) C := by
  intro p l e R s m args below meth c Qf S E H locs cells slots lsA hr hL hc hs hv
  obtain ⟨-, hR, hx, hb, hml, hown, hW, -, -, -, -, hlow⟩ := id S
  have hts := hts_G (args := args) hO hW
  have hR1 : R.frames = mF M := by rw [hR]; rfl
  have hR2 : R.locals = mO M := by rw [hR]; rfl
  have hc1 := arr_cell hr hK1 (by omega)
  have hne : gK C a1 ≠ 0 := by omega
  have hge := (hr.2.2.2.1 a1 hne).1
  have s1 : sp.toNatClampNeg = sj := by rw [e1]; exact nI_clamp (by omega)
  have s2 : dp.toNatClampNeg = dj := by rw [e2]; exact nI_clamp (by omega)
  have s3 : m9.toNatClampNeg = mj := by rw [e3]; exact nI_clamp (by omega)
  have f1 : arrV (gA G 23) (gN C a1) (aV C 23 a1) = vp_cell (gA G 23) (N1, .inl (gI C a1)) := by rw [hn1]; rfl
  rw [f1] at hc1
  have hl : a1 < H.size := (Array.getElem?_eq_some_iff.mp hc1).1
  obtain ⟨scr, q1, q2, q3, q4, q5, q6, q7⟩ := (va_T.moved hW.alike hX).kept (kp_O hlow)
  have hc0 : H[b0]? = some scr := by rw [(S_O hr hL hlow).2.1 b0 (Array.getElem?_eq_some_iff.mp q1).1 q7]; exact q1
  have hk9 := va_KG hO hW
  obtain ⟨hs6, k0, hk0, cm0, hkk0⟩ := q2
  obtain ⟨-, k1, hk1, cm1, hkk1⟩ := (hk9.2 3 _ rfl).1 N1 (fun j => .int (gI C a1 j))
  have nn : ∀ z : Int32, ∀ j : Nat, j < 2147483648 → z = nI j → ¬ z < 0 ∧ z.toInt = (j : Int) := by
    intro z j hj hz
    subst hz
    exact ⟨nI_pos hj, nI_toInt hj⟩
  intro T hT X9
  obtain ⟨vm', X', step⟩ := X9.arraycopy hx hown (hts _ w1) (hts _ w2) (hts _ w3) (hts _ w4) (src := b0) (dst := a1) (cs := scr) (cd := vp_cell (gA G 23) (N1, .inl (gI C a1))) (srcPos := sp) (destPos := dp) (n := m9) (by rw [hT]; exact hc0) (by rw [hT]; exact hc1)
    hs6 (fun _ h => by cases h) q3 (fun h => by cases h) hk0 hk1 hkk0 hkk1 (by simp [refKind]) (nn sp sj (by omega) e1).1 (nn dp dj (by omega) e2).1 (nn m9 mj (by omega) e3).1
    (by rw [(nn sp sj (by omega) e1).2, (nn m9 mj (by omega) e3).2]; omega)
    (by rw [(nn dp dj (by omega) e2).2, (nn m9 mj (by omega) e3).2]; show ¬ _ > ((arrV (gA G 23) N1 (fun j => .int (gI C a1 j))).slots.size : Int); rw [arrV_size]; omega)
    (fun vm₁ _ i hi => by
      have e : scr.slots.getD (sp.toNatClampNeg + i) .null = .int (f (sp.toNatClampNeg + i)) := by
        rw [Array.getD_eq_getD_getElem?, q6 _ (by omega)]
        rfl
      refine ⟨?_, ?_⟩
      · rw [e, s1]; exact hfit i (by omega)
      · rw [e]; exact trivial)
    (g := F0 m pc lsA (.int m9 :: .int dp :: .ref a1 :: .int sp :: .ref b0 :: rest)) rfl (by show lsA.size = _; rw [hml]; exact hv.1) (rest := rest) rfl (by rw [hb]; exact d) (by omega) (by show 2 * 0 + _ + _ ≤ _; omega)
  have ec : copied scr (vp_cell (gA G 23) (N1, .inl (gI C a1))) sp dp m9 = vp_cell (gA G 23) (N1, .inl (va_cpy f (gI C a1) sp.toNatClampNeg dp.toNatClampNeg m9.toNatClampNeg)) := va_copiedX (fun z => .int z) scr (gA G 23) f (gI C a1) q6 (by omega)
  rw [ec] at X' step
  have hheap : ((T.setVm vm').setCell a1 (vp_cell (gA G 23) (N1, .inl (va_cpy f (gI C a1) sp.toNatClampNeg dp.toNatClampNeg m9.toNatClampNeg)))).heap = H.setIfInBounds a1 (vp_cell (gA G 23) (N1, .inl (va_cpy f (gI C a1) sp.toNatClampNeg dp.toNatClampNeg m9.toNatClampNeg))) := by rw [← hT]; rfl
  have oq : ∀ q : Nat, q ≠ a1 → (H.setIfInBounds a1 (vp_cell (gA G 23) (N1, .inl (va_cpy f (gI C a1) sp.toNatClampNeg dp.toNatClampNeg m9.toNatClampNeg))))[q]? = H[q]? := fun q hq => by simp [Array.getElem?_setIfInBounds, Ne.symm hq]
  obtain ⟨t, a1', b1⟩ := kk p l e R s m args below meth c Qf S E _ _ cells slots lsA (rep_one hr rfl rfl rfl (by simp) oq hne (fun b hb => funext fun j => if_neg hb) (fun _ _ => rfl) (fun _ _ => rfl) ⟨fun h => by omega, fun _ => by
      rw [hK1, gN_wI, hn1]
      rw [show (H.setIfInBounds a1 (vp_cell (gA G 23) (N1, .inl (va_cpy f (gI C a1) sp.toNatClampNeg dp.toNatClampNeg m9.toNatClampNeg))))[a1]? = some (vp_cell (gA G 23) (N1, .inl (va_cpy f (gI C a1) sp.toNatClampNeg dp.toNatClampNeg m9.toNatClampNeg))) by simp [Array.getElem?_setIfInBounds, hl], s1, s2, s3]
      refine congrArg some ?_
      show arrV (gA G 23) N1 (fun j => .int (va_cpy f (gI C a1) sj dj mj j)) = _
      refine congrArg (arrV (gA G 23) N1) (funext fun q => ?_)
      simp [aV, gI_wI]⟩ (fun j hj => by rw [hK1] at hj; cases hj)) (HL_app hL (by simp) (fun z hz => by
        obtain ⟨i, -, hz2⟩ := List.mem_map.mp hz
        rw [← hz2]
        exact hge)) hc hs hv _ hheap X'
  exact ⟨t, step t a1', b1⟩
/-- throw new E("text") -/
theorem x_throwS {ik is ic sa : Nat} {cls text : String} {names : List String} (hO : GO G) (hX9 : eX G) (d0 : decode (mB M) pc = .ok (.new ik, 3)) (d3 : decode (mB M) (pc + 3) = .ok (.dup, 1)) (d4 : decode (mB M) (pc + 4) = .ok (.ldc is, 2)) (d6 : decode (mB M) (pc + 6) = .ok (.invokespecial ic, 3)) (d9 : decode (mB M) (pc + 9) = .ok (.athrow, 1))
    (hcls : Bundle.fit cls = true) (hnames : ∀ n ∈ names, Bundle.fit n = true) (w1 : Cond.classLink (mY M).cls ik cls ∈ TT) (w2 : Cond.initialized cls ∈ TT) (hstr : eR G (mY M).cls is text sa) (hg1 : ∀ w ∈ (vx_atS (mY M).cls ic cls names).filter goodWord, w ∈ TT) (B : List Cond) (hg2 : ∀ w ∈ (vx_atS (mY M).cls ic cls names).filter (fun w => !goodWord w), w ∈ B) (hB : ∀ (s : State) (args : Array Value), (gS G).WarmedH s.vm → ∀ w ∈ B, w.before args s = true)
    (hgood : ∀ w ∈ Cond.classLink (mY M).cls ik cls :: Cond.initialized cls :: vx_atS (mY M).cls ic cls names, vx_ot w = true)
    (hrest : (st.map fun v => v.category).sum ≤ 8) (hf : names.length + 3 < mF M ∧ 8 + (13 * (names.length + 1) + 43) ≤ mO M) (hk : 1 ≤ k ∧ 6 ≤ n)
    (hx : ∀ z : Nat, gz C ≤ z → X cls (wZ C z)) : Ex G M Q X k n pc ls st C := by
  intro p l e R s m args below meth c Qf S E H locs cells slots lsA hr hL hc hs hv
  obtain ⟨hl, hR, hx9, hb, hml, hown, hW, hlk, -, -, hbig, hlow⟩ := id S
  have hts := hts_G (args := args) hO hW
  rcases E.2 with hno | ⟨htab, Qc, XC, rfl, hXC⟩
  · exact absurd (hx (gz C) (Nat.le_refl _)) (hno _ _)
  · have hR1 : R.cells = mC M := by rw [hR]; rfl
    have hR2 : R.slots = mS M := by rw [hR]; rfl
    have hR3 : R.frames = mF M := by rw [hR]; rfl
    have hR4 : R.locals = mO M := by rw [hR]; rfl
    have hsz := hr.1
    refine vx_throwS hx9 hb (by rw [hl]; exact hX9.1) hown hcls hnames (hts _ w1) (hts _ w2) (vk_R.warm hW hstr) (vx_hat (fun w hw => hts w (hg1 w hw)) hg2 (hB s args hW)) hgood ((vx_Zq.moved hW.alike hX9.2.1).kept (kp_O hlow)) ((vx_Zq.moved hW.alike hX9.2.2).kept (kp_O hlow)) (S_O hr hL hlow) (by rw [hml]; exact hv.1) d0 d3 d4 d6 d9 (fun x hx => absurd hx (fun h => htab x h)) (by omega) (by omega) (by omega) (by omega) hlk ?_ hL.2 (by omega) (by omega)
    intro t _ h1 h2
    refine hXC cls (wZ C t.heap.size) t (hx _ (by omega)) ?_ (by have := hL.1; omega)
    obtain ⟨g1, g2, g3, g4, g5⟩ := hr
    refine ⟨rfl, by show gB G ≤ t.heap.size; omega, fun q hq => by rw [h2 q (by omega)]; exact g3 q hq, fun a ha => ?_, g5⟩
    obtain ⟨f1, f2, f3, f4, f5⟩ := g4 a ha
    refine ⟨f1, by show a < t.heap.size; have : a < gz C := f2; omega, f3, fun hl => ?_, fun hl => ?_⟩
    · obtain ⟨r, r1, r2⟩ := f4 hl
      exact ⟨r, r1, r2.kept (h2 a (by rw [hsz]; exact f2))⟩
    · rw [h2 a (by rw [hsz]; exact f2)]
      exact f5 hl
end XE
