/-! the start: what the tables and the premises say -/
theorem arr_mk {A : Array Value} {s : State} {ty : FieldType} (h : (Cond.arrayClass ty).before A s = true) : ∃ cA, ArrOfT s cA ty ∧ s.vm.findClass ("[" ++ ty.toString) = some cA := by
  obtain ⟨c, k, comp, h1, h2, h3⟩ := Cond.arrayClass_spec h
  exact ⟨c, fun N z => ⟨(fun k h => by cases h), k, h2, comp, h3⟩, h1⟩
theorem arr_mko {s : State} {C : String} (h : va_AO C s) : ∃ cA, ArrOfT s cA (.object C) ∧ va_RA s cA (.object C) := by
  obtain ⟨comp, c, k, h1, h2, h3, h4, h5⟩ := Cond.arrayOver_spec h
  exact ⟨c, fun N z => ⟨(fun k h => by cases h), k, h3, comp, h4⟩, k, comp, h3, h4, h1, h5⟩
theorem ao_0 {A : Array Value} {s : State} (hts : ∀ w ∈ lw_tbl, w.before A s = true) : va_AO "DepotCharge$Bus" s := va_AO.of (hts (Cond.arrayOver (.object "DepotCharge$Bus")) (tm 84 (by decide +kernel)))
theorem ao_1 {A : Array Value} {s : State} (hts : ∀ w ∈ lw_tbl, w.before A s = true) : va_AO "DepotCharge$Depot" s := va_AO.of (hts (Cond.arrayOver (.object "DepotCharge$Depot")) (tm 189 (by decide +kernel)))
theorem GO_mk {l : Launch} {s : State} {A : Array Value} (hts : ∀ w ∈ lw_tbl, w.before A s = true) : ∃ G : GT, gL G = l ∧ gS G = s ∧ GO G := by
  have tt : ∀ w ∈ TT, w.before A s = true := fun w hw => hts w (List.mem_filter.mp hw).1
  obtain ⟨c0, i0, k0⟩ := u_known (ws := TT) (C := RJ4) (T := TJ4) (N := 4) tt (clOk_ok 0 _ _ _ rfl).1 (tt _ in_J4)
  obtain ⟨c1, i1, k1⟩ := u_known (ws := TT) (C := RX0) (T := TX0) (N := 10) tt (clOk_ok 1 _ _ _ rfl).1 (tt _ in_X0)
  obtain ⟨c2, i2, k2⟩ := u_known (ws := TT) (C := RX1) (T := TX1) (N := 11) tt (clOk_ok 2 _ _ _ rfl).1 (tt _ in_X1)
  obtain ⟨c3, i3, k3⟩ := u_known (ws := TT) (C := RX2) (T := TX2) (N := 2) tt (clOk_ok 3 _ _ _ rfl).1 (tt _ in_X2)
  obtain ⟨c4, i4, k4⟩ := u_known (ws := TT) (C := RX3) (T := TX3) (N := 5) tt (clOk_ok 4 _ _ _ rfl).1 (tt _ in_X3)
  obtain ⟨c5, i5, k5⟩ := u_known (ws := TT) (C := RX4) (T := TX4) (N := 7) tt (clOk_ok 5 _ _ _ rfl).1 (tt _ in_X4)
  obtain ⟨a0, x0, y0⟩ := arr_mk (tt _ ac_int)
  obtain ⟨a1, x1, y1⟩ := arr_mk (tt _ ac_boolean)
  obtain ⟨a2, x2, y2⟩ := arr_mk (tt _ ac_char)
  obtain ⟨a3, x3, y3⟩ := arr_mk (tt _ ac_byte)
  obtain ⟨a5, x5, y5⟩ := arr_mko (ao_0 hts)
  obtain ⟨a6, x6, y6⟩ := arr_mko (ao_1 hts)
  refine ⟨(l, s, (fun c => match c with | 0 => c0 | 1 => c1 | 2 => c2 | 3 => c3 | 4 => c4 | _ => c5, fun c => match c with | 0 => i0 | 1 => i1 | 2 => i2 | 3 => i3 | 4 => i4 | _ => i5), fun κ => match κ with | 20 => a0 | 21 => a1 | 22 => a2 | 23 => a3 | 24 => a0 | 25 => a5 | _ => a6), rfl, rfl, ⟨A, hts⟩, clOk_ok, ?_, ?_⟩
  · intro c q hq
    have hc : c < 6 := (List.getElem?_eq_some_iff.mp hq).1
    rcases (show c = 0 ∨ c = 1 ∨ c = 2 ∨ c = 3 ∨ c = 4 ∨ c = 5 by omega) with rfl | rfl | rfl | rfl | rfl | rfl
    · cases hq; exact k0
    · cases hq; exact k1
    · cases hq; exact k2
    · cases hq; exact k3
    · cases hq; exact k4
    · cases hq; exact k5
  · intro c q hq
    have hc : c < 7 := (List.getElem?_eq_some_iff.mp hq).1
    rcases (show c = 0 ∨ c = 1 ∨ c = 2 ∨ c = 3 ∨ c = 4 ∨ c = 5 ∨ c = 6 by omega) with rfl | rfl | rfl | rfl | rfl | rfl | rfl
    · cases hq; exact ⟨x0, y0⟩
    · cases hq; exact ⟨x1, y1⟩
    · cases hq; exact ⟨x2, y2⟩
    · cases hq; exact ⟨x3, y3⟩
    · cases hq; exact ⟨x0, y0⟩
    · cases hq; exact ⟨x5, y5⟩
    · cases hq; exact ⟨x6, y6⟩

