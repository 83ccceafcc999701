/-! the start: Strings, static rows -/
abbrev FLc : List Cond := flatC (Jvm.Cond.and given_1 narrow_1)
theorem fm {w : Cond} (i : Nat) (h : FLc[i]? = some w) : w ∈ FLc := List.mem_of_getElem? h
abbrev exI : List Nat := [288, 295, 304, 313, 553, 571, 590, 611, 425, 1007, 323, 467, 490, 518, 631, 674, 733, 796, 844, 881, 1049, 948, 354, 380]
abbrev srI : List Nat := [246, 321, 322, 323, 846, 848, 849, 850, 616, 1085, 365, 663, 689, 706, 906, 908, 931, 948, 952, 977, 1129, 1030, 564, 587]
abbrev stm (i : Nat) : Term := .string (strT.getD i ("", 0, "")).1 (strT.getD i ("", 0, "")).2.1
theorem fl_str : ∀ i : Fin 24, FLc[exI.getD i.val 0]? = some (Cond.exactly (stm i.val) "java/lang/String") ∧ lw_tbl[srI.getD i.val 0]? = some (Cond.stringRef (strT.getD i.val ("", 0, "")).1 (strT.getD i.val ("", 0, "")).2.1 (strT.getD i.val ("", 0, "")).2.2) := by decide +kernel
abbrev coI : List Nat := [289, 296, 305, 314, 554, 572, 591, 612]
abbrev arI : List Nat := [290, 297, 306, 315, 555, 573, 592, 613]
abbrev leI : List Nat := [291, 298, 307, 316, 556, 574, 593, 614]
abbrev elI : List Nat := [292, 299, 308, 317, 557, 575, 594, 615]
theorem fl_w : ∀ i : Fin 8, FLc[coI.getD i.val 0]? = some (Cond.eq (.field (stm i.val) "java/lang/String" "coder" "B") (.int 0)) ∧ FLc[arI.getD i.val 0]? = some (Cond.arrayOf (.field (stm i.val) "java/lang/String" "value" "[B") .byte) ∧ FLc[leI.getD i.val 0]? = some (Cond.eq (.length (.field (stm i.val) "java/lang/String" "value" "[B")) (.int (Int32.ofNat (strW i.val).length))) := by decide +kernel
theorem fl_e : ∀ i : Fin 8, ∀ j : Fin 4, j.val < (strW i.val).length → FLc[elI.getD i.val 0 + j.val]? = some (Cond.eq (.elem (.field (stm i.val) "java/lang/String" "value" "[B") (.int (Int32.ofNat j.val))) (.int (nI ((strW i.val).getD j.val 0)))) := by decide +kernel
abbrev tOn : Term := .static "java/lang/Integer" "DigitOnes" "[B"
abbrev tTe : Term := .static "java/lang/Integer" "DigitTens" "[B"
theorem fl_d1 : ∀ j : Fin 100, FLc[41 + j.val]? = some (Cond.eq (.elem tOn (.int (Int32.ofNat j.val))) (.int (dgO j.val))) := by decide +kernel
theorem fl_d2 : ∀ j : Fin 100, FLc[144 + j.val]? = some (Cond.eq (.elem tTe (.int (Int32.ofNat j.val))) (.int (dgT j.val))) := by decide +kernel
abbrev tSt (n : String) : Term := .static "DepotCharge" n "[I"
theorem fl_s : ∀ j : Fin 6, FLc[23 + j.val]? = some (Cond.eq (.elem (tSt "LEAST_SETTINGS") (.int (Int32.ofNat j.val))) (.int (leS j.val))) ∧ FLc[32 + j.val]? = some (Cond.eq (.elem (tSt "MOST_SETTINGS") (.int (Int32.ofNat j.val))) (.int (moS j.val))) ∧ FLc[7 + j.val]? = some (Cond.eq (.elem (tSt "FIRST_SETTINGS") (.int (Int32.ofNat j.val))) (.int (nI (fiN j.val)))) := by decide +kernel
theorem row_mk {s : State} {A : Array Value} {B : Nat → Prop} {Cn n9 d9 : String} {ty : FieldType} {N : Nat} {f : Nat → Value} (hN : N < 2 ^ 31) (hl : (Cond.laysStatic Cn n9 d9).before A s = true) (hi : (Cond.initialized Cn).before A s = true) (ha : (Cond.arrayOf (.static Cn n9 d9) ty).before A s = true) (hn : (Cond.eq (.length (.static Cn n9 d9)) (.int (Int32.ofNat N))).before A s = true) (he : ∀ j, j < N → (Term.elem (.static Cn n9 d9) (.int (Int32.ofNat j))).eval A s none [] s = some (f j)) (hA : ∀ a : Nat, a < s.heap.size → ¬ B a) : ∃ a, va_Z Cn n9 d9 (.ref a) B s s.heap ∧ va_T ty a N f B s s.heap := by
  obtain ⟨t, ht, hT⟩ := va_Tof hN ha (va_eqt hn) he hA
  exact ⟨t, va_Zof hl hi ht hA, hT⟩
theorem GX_mk {G : GT} {A : Array Value} (hfl : (gL G).flags = flags0) (hts : ∀ w ∈ lw_tbl, w.before A (gS G) = true) (hf : ∀ w ∈ FLc, w.before A (gS G) = true) : ∃ sa va, GX G sa va ∧ GN G := by
  have hA : ∀ a : Nat, a < (gS G).heap.size → ¬ frO G a := fun a h q => Nat.lt_irrefl _ (Nat.lt_of_lt_of_le h q)
  have hs : ∀ i, ∃ a, i < strT.length → vk_R (strT.getD i ("", 0, "")).1 (strT.getD i ("", 0, "")).2.1 (strT.getD i ("", 0, "")).2.2 a (gS G) ∧ va_O "java/lang/String" a (frO G) (gS G) (gS G).heap ∧ (stm i).eval A (gS G) none [] (gS G) = some (.ref a) := by
    intro i
    by_cases hi : i < strT.length
    · have hi24 : i < 24 := hi
      obtain ⟨h1, h2⟩ := fl_str ⟨i, hi24⟩
      obtain ⟨a, c, cA, kA, q1, q2, q3, q4, q5, q6, -⟩ := Cond.exactly_spec (hf _ (fm _ h1))
      exact ⟨a, fun _ => ⟨vk_R.of (A := A) (hts _ (tm _ h2)) q1, ⟨cA, q3, q5, by rw [q6]; exact q2, hA a (Array.getElem?_eq_some_iff.mp q3).1⟩, q1⟩⟩
    · exact ⟨0, fun h => absurd h hi⟩
  obtain ⟨sa, hsa⟩ := Classical.axiomOfChoice hs
  have hv : ∀ i, ∃ v, i < 8 → va_OF "java/lang/String" "value" "[B" (.ref v) (sa i) (frO G) (gS G) (gS G).heap ∧ va_T .byte v (strW i).length (fun j => .int (nI ((strW i).getD j 0))) (frO G) (gS G) (gS G).heap := by
    intro i
    by_cases hi : i < 8
    · have hx := (hsa i (Nat.lt_of_lt_of_le hi (by decide))).2.2
      obtain ⟨f1, f2, f3⟩ := fl_w ⟨i, hi⟩
      have hle : (strW i).length ≤ 4 := by
        have q : ∀ i : Fin 8, (strW i.val).length ≤ 4 := by decide
        exact q ⟨i, hi⟩
      obtain ⟨v, q1, q2⟩ := va_Tof (N := (strW i).length) (f := fun j => .int (nI ((strW i).getD j 0))) (A := frO G) (by omega) (hf _ (fm _ f2)) (va_eqt (hf _ (fm _ f3))) (fun j hj => va_eqt (hf _ (fm _ (fl_e ⟨i, hi⟩ ⟨j, by omega⟩ hj)))) hA
      exact ⟨v, fun _ => ⟨vk_OFof hx q1 hA, q2⟩⟩
    · exact ⟨0, fun h => absurd h hi⟩
  obtain ⟨va, hva⟩ := Classical.axiomOfChoice hv
  refine ⟨sa, va, ⟨⟨?_, ?_, ?_⟩, ?_, ?_, ?_, ?_, ?_, ?_, ?_, ?_, ?_⟩, ?_, ?_, ?_⟩
  · show (gL G).stackTraces = false
    unfold Launch.stackTraces
    rw [hfl]
    decide
  · exact vx_Zqof (hts _ (tm 351 (by decide +kernel))) (hts _ (tm 29 (by decide +kernel))) (hf _ (fm 18 (by decide +kernel))) hA
  · exact vx_Zqof (hts _ (tm 353 (by decide +kernel))) (hts _ (tm 29 (by decide +kernel))) (hf _ (fm 19 (by decide +kernel))) hA
  · intro i own k tx h
    have hi := (List.getElem?_eq_some_iff.mp h).1
    have e := (hsa i hi).1
    rw [List.getD_eq_getElem?_getD, h] at e
    exact e
  · intro i hi
    obtain ⟨-, h2, h3⟩ := hsa i (Nat.lt_of_lt_of_le hi (by decide))
    obtain ⟨f1, f2⟩ := hva i hi
    exact ⟨h2, vk_OFof h3 (va_eqt (hf _ (fm _ (fl_w ⟨i, hi⟩).1))) hA, f1, f2⟩
  · exact row_mk (Cn := "DepotCharge") (n9 := "LEAST_SETTINGS") (d9 := "[I") (ty := .int) (N := 6) (by decide) (hts _ (tm 536 (by decide +kernel))) (hts _ (tm 23 (by decide +kernel))) (hf _ (fm 21 (by decide +kernel))) (hf _ (fm 22 (by decide +kernel))) (fun j hj => va_eqt (hf _ (fm _ (fl_s ⟨j, hj⟩).1))) hA
  · exact row_mk (Cn := "DepotCharge") (n9 := "MOST_SETTINGS") (d9 := "[I") (ty := .int) (N := 6) (by decide) (hts _ (tm 538 (by decide +kernel))) (hts _ (tm 23 (by decide +kernel))) (hf _ (fm 30 (by decide +kernel))) (hf _ (fm 31 (by decide +kernel))) (fun j hj => va_eqt (hf _ (fm _ (fl_s ⟨j, hj⟩).2.1))) hA
  · exact row_mk (Cn := "DepotCharge") (n9 := "FIRST_SETTINGS") (d9 := "[I") (ty := .int) (N := 6) (by decide) (hts _ (tm 137 (by decide +kernel))) (hts _ (tm 23 (by decide +kernel))) (hf _ (fm 5 (by decide +kernel))) (hf _ (fm 6 (by decide +kernel))) (fun j hj => va_eqt (hf _ (fm _ (fl_s ⟨j, hj⟩).2.2))) hA
  · exact va_Zof (hts _ (tm 260 (by decide +kernel))) (hts _ (tm 35 (by decide +kernel))) (va_eqi (hf _ (fm 13 (by decide +kernel)))) hA
  · exact row_mk (Cn := "java/lang/Integer") (n9 := "DigitOnes") (d9 := "[B") (ty := .byte) (N := 100) (by decide) (hts _ (tm 822 (by decide +kernel))) (hts _ (tm 44 (by decide +kernel))) (hf _ (fm 39 (by decide +kernel))) (hf _ (fm 40 (by decide +kernel))) (fun j hj => va_eqt (hf _ (fm _ (fl_d1 ⟨j, hj⟩)))) hA
  · exact row_mk (Cn := "java/lang/Integer") (n9 := "DigitTens") (d9 := "[B") (ty := .byte) (N := 100) (by decide) (hts _ (tm 824 (by decide +kernel))) (hts _ (tm 44 (by decide +kernel))) (hf _ (fm 142 (by decide +kernel))) (hf _ (fm 143 (by decide +kernel))) (fun j hj => va_eqt (hf _ (fm _ (fl_d2 ⟨j, hj⟩)))) hA
  · rcases va_Zqof (C := "jdk/internal/util/Preconditions") (n := "SIOOBE_FORMATTER") (d := "Ljava/util/function/BiFunction;") (A := frO G) (hts _ (tm 276 (by decide +kernel))) (hts _ (tm 37 (by decide +kernel))) (hf _ (fm 14 (by decide +kernel))) hA with h | ⟨t, h⟩
    · exact ⟨none, h⟩
    · exact ⟨some t, h⟩
  · exact va_Nc.of (hf _ (fm 257 (by decide +kernel)))
  · exact va_Nc.of (hf _ (fm 258 (by decide +kernel)))
  · exact va_Nc.of (hf _ (fm 266 (by decide +kernel)))

