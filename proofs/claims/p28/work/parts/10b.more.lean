theorem nI1 : nI 1 = 1 := rfl
theorem nI2 : nI 2 = 2 := rfl
theorem nI3 : nI 3 = 3 := rfl
section XM
variable {G : GT} {M : MI} {Q : QT} {X : XT} {k n pc : Nat} {ls : List (Nat × Value)} {st : List Value} {C : AH}
theorem x_mmax {idx : Nat} {x y : Int32} {rest : List Value} (hO : GO G) (d : decode (mB M) pc = .ok (.invokestatic idx, 3)) (w1 : Cond.methodLink (mY M).cls idx Lib.Math.max.name ∈ TT) (w2 : Cond.static Lib.Math.max.name ∈ TT) (w3 : Cond.initialized "java/lang/Math" ∈ TT) (w4 : Cond.code Lib.Math.max.name Lib.Math.max.code 2 (some .int) ∈ TT) (hf : 1 ≤ mF M ∧ 21 ≤ mO M) (hrest : (rest.map fun v => v.category).sum ≤ 8)
    (kk : Ex G M Q X k n (pc + 3) ls (.int (if x < y then y else x) :: rest) C) : Ex G M Q X k n pc ls (.int y :: .int x :: rest) C := by
  intro p l e R s m args below meth c Qf S E H locs cells slots lsA hr hL hc hs hv
  obtain ⟨-, hR, hx, hb, hml, hown, hW, -⟩ := id S
  have hts := hts_G (args := args) hO hW
  have hR1 : R.frames = mF M := by rw [hR]; rfl
  have hR2 : R.locals = mO M := by rw [hR]; rfl
  have hR3 : R.cells = mC M := by rw [hR]; rfl
  have hR4 : R.slots = mS M := by rw [hR]; rfl
  exact va_mmax hx hb (by rw [hml]; exact hv.1.symm) hown (hts _ w1) (hts _ w2) (hts _ w3) (hts _ w4) (by omega) (by omega) (by omega) (by omega) d (kk p l e R s m args below meth c Qf S E H locs cells slots lsA hr hL hc hs hv)
theorem x_mmin {idx : Nat} {x y : Int32} {rest : List Value} (hO : GO G) (d : decode (mB M) pc = .ok (.invokestatic idx, 3)) (w1 : Cond.methodLink (mY M).cls idx Lib.Math.min.name ∈ TT) (w2 : Cond.static Lib.Math.min.name ∈ TT) (w3 : Cond.initialized "java/lang/Math" ∈ TT) (w4 : Cond.code Lib.Math.min.name Lib.Math.min.code 2 (some .int) ∈ TT) (hf : 1 ≤ mF M ∧ 21 ≤ mO M) (hrest : (rest.map fun v => v.category).sum ≤ 8)
    (kk : Ex G M Q X k n (pc + 3) ls (.int (if y < x then y else x) :: rest) C) : Ex G M Q X k n pc ls (.int y :: .int x :: rest) C := by
  intro p l e R s m args below meth c Qf S E H locs cells slots lsA hr hL hc hs hv
  obtain ⟨-, hR, hx, hb, hml, hown, hW, -⟩ := id S
  have hts := hts_G (args := args) hO hW
  have hR1 : R.frames = mF M := by rw [hR]; rfl
  have hR2 : R.locals = mO M := by rw [hR]; rfl
  have hR3 : R.cells = mC M := by rw [hR]; rfl
  have hR4 : R.slots = mS M := by rw [hR]; rfl
  exact va_mmin hx hb (by rw [hml]; exact hv.1.symm) hown (hts _ w1) (hts _ w2) (hts _ w3) (hts _ w4) (by omega) (by omega) (by omega) (by omega) d (kk p l e R s m args below meth c Qf S E H locs cells slots lsA hr hL hc hs hv)
end XM
theorem max_name : yJ9_max_7cf53 = Lib.Math.max.name := by decide +kernel
theorem min_name : yJ9_min_7cf53 = Lib.Math.min.name := by decide +kernel
theorem max_s : Cond.static Lib.Math.max.name ∈ TT := max_name ▸ s_J9_max_7cf53
theorem min_s : Cond.static Lib.Math.min.name ∈ TT := min_name ▸ s_J9_min_7cf53
theorem max_c : Cond.code Lib.Math.max.name Lib.Math.max.code 2 (some .int) ∈ TT := by
  have h := o_J9_max_7cf53.1
  rwa [show (Cond.code (mY M_J9_max_7cf53) (mB M_J9_max_7cf53) (mL M_J9_max_7cf53) (mT M_J9_max_7cf53)) = Cond.code Lib.Math.max.name Lib.Math.max.code 2 (some .int) by decide +kernel] at h
theorem min_c : Cond.code Lib.Math.min.name Lib.Math.min.code 2 (some .int) ∈ TT := by
  have h := o_J9_min_7cf53.1
  rwa [show (Cond.code (mY M_J9_min_7cf53) (mB M_J9_min_7cf53) (mL M_J9_min_7cf53) (mT M_J9_min_7cf53)) = Cond.code Lib.Math.min.name Lib.Math.min.code 2 (some .int) by decide +kernel] at h
theorem math_i : Cond.initialized "java/lang/Math" ∈ TT := o_J9_max_7cf53.2.1
/-- a method of a class some of whose methods the machine runs by itself -/
theorem Mt_ofF {G : GT} {M : MI} {As : List Value} {C : AH} {Q : QT} {X : XT} (hy : plainFor (mY M) = true) (hn : (lg_sl As).length ≤ mL M)
    (h : Ex G M Q X (mC M) (mS M) 0 (lv_args 0 As) [] C) : Mt G M As C Q X := by
  refine MetFree.of_bodySF (code := mB M) (maxLocals := mL M) (ret := mT M) hy ?_ ?_
  · intro args s m h hn
    obtain ⟨meth, c, h1, h2, h3, h4, h5, h6, -, -⟩ := Cond.code_spec hn (atoms_spec (ws := [Cond.code (mY M) (mB M) (mL M) (mT M)]) h _ List.mem_cons_self)
    exact ⟨meth, c, h1, h2, h3, h4, h5, h6⟩
  · intro p e s m args below meth c s₁ B hml hP _
    have hh0 : s₁.heap = s.heap := by rw [B.state]; rfl
    have htab : ∀ x ∈ c.exceptionTable.toList, False := by
      obtain ⟨meth9, c9, h1, h2, -, -, -, -, h7, -⟩ := Cond.code_spec B.named (atoms_spec (ws := [Cond.code (mY M) (mB M) (mL M) (mT M)]) B.pre _ List.mem_cons_self)
      cases Option.some.inj (h1.symm.trans B.method)
      cases Option.some.inj (h2.symm.trans (Stand.of_body B).code)
      intro x hx
      rw [Array.isEmpty_iff.mp h7] at hx
      cases hx
    obtain ⟨rfl, hr, hw⟩ := hP
    have S : Site G M p (gL G) (rmO M) s m meth c := ⟨rfl, rfl, B.exec, B.bytes, hml, findClass_of_methodNamed B.named, hw, B.notSynchronized, B.returns, (name_of_methodNamed B.named B.method).1, by rw [hr.1]; exact hr.2.1, hr.2.2.1⟩
    have hl := lv_entry As (n := mL M) hn
    have hW := h p (gL G) e (rmO M) s m As.toArray below meth c _ S (ends_std S (Or.inr htab)) s.heap [] 0 0 _ hr ⟨Nat.le_refl _, fun z hz => by cases hz⟩ (by omega) (by omega) hl
    obtain ⟨t, a1, o, b1, b2, b3⟩ := hW s₁ hh0 (Stand.of_body B)
    rw [← lg_entry_eq] at a1
    exact ⟨t, o, a1, b1, b2, b3⟩
