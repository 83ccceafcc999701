/-! the reference: what is asked, what is laid *)-/
theorem nrb {r : Int32} {p : Prop} {hd : Decidable p} (h : r = (if p then 1 else 0)) : narrow .boolean (.int r) = .int r := by
  subst h
  split <;> rfl
theorem lgc {x y : Int64} : (lg_cmp x y < 0 ↔ x < y) ∧ (0 < lg_cmp x y ↔ y < x) ∧ (lg_cmp x y ≤ 0 ↔ x ≤ y) ∧ (0 ≤ lg_cmp x y ↔ y ≤ x) := by
  unfold lg_cmp
  have t := Int64.lt_iff_toInt_lt (x := x) (y := y)
  have t2 := Int64.lt_iff_toInt_lt (x := y) (y := x)
  have t3 := Int64.le_iff_toInt_le (x := x) (y := y)
  have t4 := Int64.le_iff_toInt_le (x := y) (y := x)
  by_cases h : x > y
  · rw [if_pos h]
    have h' : y.toInt < x.toInt := t2.mp h
    exact ⟨⟨fun q => absurd q (by decide), fun q => by have := t.mp q; omega⟩, ⟨fun _ => h, fun _ => by decide⟩, ⟨fun q => absurd q (by decide), fun q => by have := t3.mp q; omega⟩, ⟨fun _ => t4.mpr (by omega), fun _ => by decide⟩⟩
  · rw [if_neg h]
    have h' : ¬ y.toInt < x.toInt := fun q => h (t2.mpr q)
    by_cases e : x = y
    · rw [if_pos e]
      subst e
      exact ⟨⟨fun q => absurd q (by decide), fun q => by have := t.mp q; omega⟩, ⟨fun q => absurd q (by decide), fun q => absurd q h⟩, ⟨fun _ => t3.mpr (by omega), fun _ => by decide⟩, ⟨fun _ => t4.mpr (by omega), fun _ => by decide⟩⟩
    · rw [if_neg e]
      have e' : x.toInt ≠ y.toInt := fun q => e (Int64.toInt_inj.mp q)
      exact ⟨⟨fun _ => t.mpr (by omega), fun _ => by decide⟩, ⟨fun q => absurd q (by decide), fun q => absurd q h⟩, ⟨fun _ => t3.mpr (by omega), fun _ => by decide⟩, ⟨fun q => absurd q (by decide), fun q => by have := t4.mp q; omega⟩⟩
theorem i64_le {x y : Int32} : x.toInt64 ≤ y.toInt64 ↔ x ≤ y := by
  rw [Int64.le_iff_toInt_le, Int32.le_iff_toInt_le, Int32.toInt_toInt64, Int32.toInt_toInt64]
theorem r_in {G : GT} {C : AH} {Q : QT} {X : XT} {v a b : Int64} (hO : GO G) (hq : ∀ r : Int32, r = (if a ≤ v ∧ v ≤ b then 1 else 0) → Q (some (.int r)) C) : Mt G M_X5_in [.long v, .long a, .long b] C Q X := by
  refine Mt_of (by decide) (Nat.le_of_ble_eq_true rfl) ?_
  have t1 := Int64.lt_iff_toInt_lt (x := v) (y := a)
  have t2 := Int64.lt_iff_toInt_lt (x := b) (y := v)
  have t3 := Int64.le_iff_toInt_le (x := a) (y := v)
  have t4 := Int64.le_iff_toInt_le (x := v) (y := b)
  refine x_lload_n dX5_in_0 rfl ?_
  refine x_lload_n dX5_in_1 rfl ?_
  refine x_lcmp dX5_in_2 ?_
  refine x_if_lt (tgt := 17) dX5_in_3 (by decide) (fun c3 => ?_) (fun c3 => ?_)
  · rw [lgc.1, t1] at c3
    refine x_iconst (v := nI 0) dX5_in_17 (by decide) ?_
    refine x_iret dX5_in_18 rfl (by first | rfl | assumption) ?_
    exact hq _ (by first | exact (if_pos ⟨t3.mpr (by omega), t4.mpr (by omega)⟩).symm | exact (if_neg (fun q => by have := t3.mp q.1; have := t4.mp q.2; omega)).symm)
  · rw [lgc.1, t1] at c3
    refine x_lload_n dX5_in_6 rfl ?_
    refine x_lload dX5_in_7 rfl ?_
    refine x_lcmp dX5_in_9 ?_
    refine x_if_gt (tgt := 17) dX5_in_10 (by decide) (fun c10 => ?_) (fun c10 => ?_)
    · rw [lgc.2.1, t2] at c10
      refine x_iconst (v := nI 0) dX5_in_17 (by decide) ?_
      refine x_iret dX5_in_18 rfl (by first | rfl | assumption) ?_
      exact hq _ (by first | exact (if_pos ⟨t3.mpr (by omega), t4.mpr (by omega)⟩).symm | exact (if_neg (fun q => by have := t3.mp q.1; have := t4.mp q.2; omega)).symm)
    · rw [lgc.2.1, t2] at c10
      refine x_iconst (v := nI 1) dX5_in_13 (by decide) ?_
      refine x_goto (tgt := 18) dX5_in_14 (by decide) ?_
      refine x_iret dX5_in_18 rfl (by first | rfl | assumption) ?_
      exact hq _ (by first | exact (if_pos ⟨t3.mpr (by omega), t4.mpr (by omega)⟩).symm | exact (if_neg (fun q => by have := t3.mp q.1; have := t4.mp q.2; omega)).symm)
theorem r_inI {G : GT} {C : AH} {Q : QT} {X : XT} {v a b : Int32} {x y : Int64} (hO : GO G) (hx : x = a.toInt64) (hy : y = b.toInt64) (hq : ∀ r : Int32, r = (if a ≤ v ∧ v ≤ b then 1 else 0) → Q (some (.int r)) C) : Mt G M_X5_in [.long v.toInt64, .long x, .long y] C Q X := by
  subst hx hy
  refine r_in hO fun r hr => hq r ?_
  rw [hr]
  simp only [i64_le]
theorem r_isHour {G : GT} {C : AH} {Q : QT} {X : XT} {v : Int32} (hO : GO G) (hq : ∀ r : Int32, r = (if nI 0 ≤ v ∧ v ≤ nI 23 then 1 else 0) → Q (some (.int r)) C) : Mt G M_X5_isHour [.int v] C Q X := by
  refine Mt_of (by decide) (Nat.le_of_ble_eq_true rfl) ?_
  refine x_iload_n dX5_isHour_0 rfl ?_
  refine x_i2l dX5_isHour_1 ?_
  refine x_lconst (v := 0) dX5_isHour_2 (by decide) ?_
  refine x_ldc2 hO.1 dX5_isHour_3 k_X5_116 ?_
  refine x_callS (As := [_, _, _]) hO dX5_isHour_6 o_X5_in s_X5_in l_X5_118 ⟨by decide, by decide⟩ ⟨by decide, by decide⟩ rfl rfl (Nat.le_of_ble_eq_true rfl) (r_inI (a := nI 0) (b := nI 23) hO (by decide) (by decide) (fun r6 hr6 => ?_))
  dsimp only [Option.toList, List.cons_append, List.nil_append]
  refine x_iret dX5_isHour_9 rfl (nrb hr6) ?_
  exact hq _ hr6
theorem r_isBattery {G : GT} {C : AH} {Q : QT} {X : XT} {v : Int32} (hO : GO G) (hq : ∀ r : Int32, r = (if nI 10 ≤ v ∧ v ≤ nI 400 then 1 else 0) → Q (some (.int r)) C) : Mt G M_X5_isBattery [.int v] C Q X := by
  refine Mt_of (by decide) (Nat.le_of_ble_eq_true rfl) ?_
  refine x_iload_n dX5_isBattery_0 rfl ?_
  refine x_i2l dX5_isBattery_1 ?_
  refine x_ldc2 hO.1 dX5_isBattery_2 k_X5_58 ?_
  refine x_ldc2 hO.1 dX5_isBattery_5 k_X5_122 ?_
  refine x_callS (As := [_, _, _]) hO dX5_isBattery_8 o_X5_in s_X5_in l_X5_118 ⟨by decide, by decide⟩ ⟨by decide, by decide⟩ rfl rfl (Nat.le_of_ble_eq_true rfl) (r_inI (a := nI 10) (b := nI 400) hO (by decide) (by decide) (fun r8 hr8 => ?_))
  dsimp only [Option.toList, List.cons_append, List.nil_append]
  refine x_iret dX5_isBattery_11 rfl (nrb hr8) ?_
  exact hq _ hr8
theorem r_isPower {G : GT} {C : AH} {Q : QT} {X : XT} {v : Int32} (hO : GO G) (hq : ∀ r : Int32, r = (if nI 1 ≤ v ∧ v ≤ nI 50 then 1 else 0) → Q (some (.int r)) C) : Mt G M_X5_isPower [.int v] C Q X := by
  refine Mt_of (by decide) (Nat.le_of_ble_eq_true rfl) ?_
  refine x_iload_n dX5_isPower_0 rfl ?_
  refine x_i2l dX5_isPower_1 ?_
  refine x_lconst (v := 1) dX5_isPower_2 (by decide) ?_
  refine x_ldc2 hO.1 dX5_isPower_3 k_X5_128 ?_
  refine x_callS (As := [_, _, _]) hO dX5_isPower_6 o_X5_in s_X5_in l_X5_118 ⟨by decide, by decide⟩ ⟨by decide, by decide⟩ rfl rfl (Nat.le_of_ble_eq_true rfl) (r_inI (a := nI 1) (b := nI 50) hO (by decide) (by decide) (fun r6 hr6 => ?_))
  dsimp only [Option.toList, List.cons_append, List.nil_append]
  refine x_iret dX5_isPower_9 rfl (nrb hr6) ?_
  exact hq _ hr6
theorem r_isRun {G : GT} {C : AH} {Q : QT} {X : XT} {v : Int32} (hO : GO G) (hq : ∀ r : Int32, r = (if nI 1 ≤ v ∧ v ≤ nI 48 then 1 else 0) → Q (some (.int r)) C) : Mt G M_X5_isRun [.int v] C Q X := by
  refine Mt_of (by decide) (Nat.le_of_ble_eq_true rfl) ?_
  refine x_iload_n dX5_isRun_0 rfl ?_
  refine x_i2l dX5_isRun_1 ?_
  refine x_lconst (v := 1) dX5_isRun_2 (by decide) ?_
  refine x_ldc2 hO.1 dX5_isRun_3 k_X5_265 ?_
  refine x_callS (As := [_, _, _]) hO dX5_isRun_6 o_X5_in s_X5_in l_X5_118 ⟨by decide, by decide⟩ ⟨by decide, by decide⟩ rfl rfl (Nat.le_of_ble_eq_true rfl) (r_inI (a := nI 1) (b := nI 48) hO (by decide) (by decide) (fun r6 hr6 => ?_))
  dsimp only [Option.toList, List.cons_append, List.nil_append]
  refine x_iret dX5_isRun_9 rfl (nrb hr6) ?_
  exact hq _ hr6
theorem r_isFar {G : GT} {C : AH} {Q : QT} {X : XT} {v : Int32} (hO : GO G) (hq : ∀ r : Int32, r = (if nI 1 ≤ v ∧ v ≤ nI 72 then 1 else 0) → Q (some (.int r)) C) : Mt G M_X5_isFar [.int v] C Q X := by
  refine Mt_of (by decide) (Nat.le_of_ble_eq_true rfl) ?_
  refine x_iload_n dX5_isFar_0 rfl ?_
  refine x_i2l dX5_isFar_1 ?_
  refine x_lconst (v := 1) dX5_isFar_2 (by decide) ?_
  refine x_ldc2 hO.1 dX5_isFar_3 k_X5_270 ?_
  refine x_callS (As := [_, _, _]) hO dX5_isFar_6 o_X5_in s_X5_in l_X5_118 ⟨by decide, by decide⟩ ⟨by decide, by decide⟩ rfl rfl (Nat.le_of_ble_eq_true rfl) (r_inI (a := nI 1) (b := nI 72) hO (by decide) (by decide) (fun r6 hr6 => ?_))
  dsimp only [Option.toList, List.cons_append, List.nil_append]
  refine x_iret dX5_isFar_9 rfl (nrb hr6) ?_
  exact hq _ hr6
theorem r_isRoute {G : GT} {C : AH} {Q : QT} {X : XT} {a l b : Int32} (hO : GO G) (hq : ∀ r : Int32, r = (if okR a l b then 1 else 0) → Q (some (.int r)) C) : Mt G M_X5_isRoute [.int a, .int l, .int b] C Q X := by
  refine Mt_of (by decide) (Nat.le_of_ble_eq_true rfl) ?_
  refine x_iload_n dX5_isRoute_0 rfl ?_
  refine x_i2l dX5_isRoute_1 ?_
  refine x_lconst (v := 1) dX5_isRoute_2 (by decide) ?_
  refine x_ldc2 hO.1 dX5_isRoute_3 k_X5_122 ?_
  refine x_callS (As := [_, _, _]) hO dX5_isRoute_6 o_X5_in s_X5_in l_X5_118 ⟨by decide, by decide⟩ ⟨by decide, by decide⟩ rfl rfl (Nat.le_of_ble_eq_true rfl) (r_inI (a := nI 1) (b := nI 400) hO (by decide) (by decide) (fun r6 hr6 => ?_))
  dsimp only [Option.toList, List.cons_append, List.nil_append]
  refine x_if_eq (tgt := 35) dX5_isRoute_9 (by decide) (fun c9 => ?_) (fun c9 => ?_)
  · have p6 := (ite01 hr6).1 c9
    refine x_iconst (v := nI 0) dX5_isRoute_35 (by decide) ?_
    refine x_iret dX5_isRoute_36 rfl (by first | rfl | assumption) ?_
    exact hq _ (by first | exact (if_pos (by grind)).symm | exact (if_neg (by grind)).symm)
  · have p6 := (ite01 hr6).2 c9
    refine x_iload_n dX5_isRoute_12 rfl ?_
    refine x_callS (As := [_]) hO dX5_isRoute_13 o_X5_isHour s_X5_isHour l_X5_124 ⟨by decide, by decide⟩ ⟨by decide, by decide⟩ rfl rfl (Nat.le_of_ble_eq_true rfl) (r_isHour hO (fun r13 hr13 => ?_))
    dsimp only [Option.toList, List.cons_append, List.nil_append]
    refine x_if_eq (tgt := 35) dX5_isRoute_16 (by decide) (fun c16 => ?_) (fun c16 => ?_)
    · have p13 := (ite01 hr13).1 c16
      refine x_iconst (v := nI 0) dX5_isRoute_35 (by decide) ?_
      refine x_iret dX5_isRoute_36 rfl (by first | rfl | assumption) ?_
      exact hq _ (by first | exact (if_pos (by grind)).symm | exact (if_neg (by grind)).symm)
    · have p13 := (ite01 hr13).2 c16
      refine x_iload_n dX5_isRoute_19 rfl ?_
      refine x_callS (As := [_]) hO dX5_isRoute_20 o_X5_isHour s_X5_isHour l_X5_124 ⟨by decide, by decide⟩ ⟨by decide, by decide⟩ rfl rfl (Nat.le_of_ble_eq_true rfl) (r_isHour hO (fun r20 hr20 => ?_))
      dsimp only [Option.toList, List.cons_append, List.nil_append]
      refine x_if_eq (tgt := 35) dX5_isRoute_23 (by decide) (fun c23 => ?_) (fun c23 => ?_)
      · have p20 := (ite01 hr20).1 c23
        refine x_iconst (v := nI 0) dX5_isRoute_35 (by decide) ?_
        refine x_iret dX5_isRoute_36 rfl (by first | rfl | assumption) ?_
        exact hq _ (by first | exact (if_pos (by grind)).symm | exact (if_neg (by grind)).symm)
      · have p20 := (ite01 hr20).2 c23
        refine x_iload_n dX5_isRoute_26 rfl ?_
        refine x_iload_n dX5_isRoute_27 rfl ?_
        refine x_icmp_eq (tgt := 35) dX5_isRoute_28 (by decide) (fun c28 => ?_) (fun c28 => ?_)
        · refine x_iconst (v := nI 0) dX5_isRoute_35 (by decide) ?_
          refine x_iret dX5_isRoute_36 rfl (by first | rfl | assumption) ?_
          exact hq _ (by first | exact (if_pos (by grind)).symm | exact (if_neg (by grind)).symm)
        · refine x_iconst (v := nI 1) dX5_isRoute_31 (by decide) ?_
          refine x_goto (tgt := 36) dX5_isRoute_32 (by decide) ?_
          refine x_iret dX5_isRoute_36 rfl (by first | rfl | assumption) ?_
          exact hq _ (by first | exact (if_pos (by grind)).symm | exact (if_neg (by grind)).symm)

theorem r_isSetting {G : GT} {C : AH} {Q : QT} {X : XT} {w v : Int32} (hO : GO G) (hq : ∀ r : Int32, r = (if okS w v then 1 else 0) → Q (some (.int r)) C) : Mt G M_X5_isSetting [.int w, .int v] C Q X := by
  refine Mt_of (by decide) (Nat.le_of_ble_eq_true rfl) ?_
  refine x_iload_n dX5_isSetting_0 rfl ?_
  refine x_if_ne (tgt := 10) dX5_isSetting_1 (by decide) (fun c1 => ?_) (fun c1 => ?_)
  · refine x_iload_n dX5_isSetting_10 rfl ?_
    refine x_iconst (v := nI 3) dX5_isSetting_11 (by decide) ?_
    refine x_icmp_ne (tgt := 21) dX5_isSetting_12 (by decide) (fun c12 => ?_) (fun c12 => ?_)
    · refine x_iload_n dX5_isSetting_21 rfl ?_
      refine x_iconst (v := nI 5) dX5_isSetting_22 (by decide) ?_
      refine x_icmp_ne (tgt := 31) dX5_isSetting_23 (by decide) (fun c23 => ?_) (fun c23 => ?_)
      · refine x_bipush (v := nI 99) dX5_isSetting_31 (by decide) ?_
        refine x_istore_n dX5_isSetting_33 (by decide) ?_
        refine x_iload_n dX5_isSetting_34 rfl ?_
        refine x_i2l dX5_isSetting_35 ?_
        refine x_lconst (v := 0) dX5_isSetting_36 (by decide) ?_
        refine x_ldc2 hO.1 dX5_isSetting_37 k_X5_130 ?_
        refine x_callS (As := [_, _, _]) hO dX5_isSetting_40 o_X5_in s_X5_in l_X5_118 ⟨by decide, by decide⟩ ⟨by decide, by decide⟩ rfl rfl (Nat.le_of_ble_eq_true rfl) (r_inI (a := nI 0) (b := nI 5) hO (by decide) (by decide) (fun r40 hr40 => ?_))
        dsimp only [Option.toList, List.cons_append, List.nil_append]
        refine x_if_eq (tgt := 70) dX5_isSetting_43 (by decide) (fun c43 => ?_) (fun c43 => ?_)
        · have p40 := (ite01 hr40).1 c43
          refine x_iconst (v := nI 0) dX5_isSetting_70 (by decide) ?_
          refine x_iret dX5_isSetting_71 rfl (by first | rfl | assumption) ?_
          first
            | (obtain ⟨j, j0, j5, rfl⟩ := (rng (by decide) (by decide)).mp p40
               try simp (disch := omega) only [nI_z] at c1
               try simp (disch := omega) only [nI_eq] at c12
               try simp (disch := omega) only [nI_eq] at c23
               try simp (disch := omega) only [nI_eq] at c50
               refine hq _ (if_pos ⟨p40.1, p40.2, ?_, ?_⟩).symm
               · rw [nI_clamp (by omega)]
                 unfold leS
                 split <;> first | exact p60.1 | (exfalso; omega)
               · rw [nI_clamp (by omega)]
                 unfold moS
                 repeat' split
                 all_goals first | exact p60.2 | (exfalso; omega)
               done)
            | (obtain ⟨j, j0, j5, rfl⟩ := (rng (by decide) (by decide)).mp p40
               try simp (disch := omega) only [nI_z] at c1
               try simp (disch := omega) only [nI_eq] at c12
               try simp (disch := omega) only [nI_eq] at c23
               try simp (disch := omega) only [nI_eq] at c50
               refine hq _ (if_neg (fun q9 => p60 ⟨?_, ?_⟩)).symm
               · have h3 := q9.2.2.1
                 rw [nI_clamp (by omega)] at h3
                 unfold leS at h3
                 split at h3 <;> first | exact h3 | (exfalso; omega)
               · have h4 := q9.2.2.2
                 rw [nI_clamp (by omega)] at h4
                 unfold moS at h4
                 repeat' split at h4
                 all_goals first | exact h4 | (exfalso; omega)
               done)
            | exact hq _ (if_neg (fun q9 => p40 ⟨q9.1, q9.2.1⟩)).symm
        · have p40 := (ite01 hr40).2 c43
          refine x_iload_n dX5_isSetting_46 rfl ?_
          refine x_i2l dX5_isSetting_47 ?_
          refine x_iload_n dX5_isSetting_48 rfl ?_
          refine x_iconst (v := nI 4) dX5_isSetting_49 (by decide) ?_
          refine x_icmp_ne (tgt := 57) dX5_isSetting_50 (by decide) (fun c50 => ?_) (fun c50 => ?_)
          · refine x_lconst (v := 0) dX5_isSetting_57 (by decide) ?_
            refine x_iload_n dX5_isSetting_58 rfl ?_
            refine x_i2l dX5_isSetting_59 ?_
            refine x_callS (As := [_, _, _]) hO dX5_isSetting_60 o_X5_in s_X5_in l_X5_118 ⟨by decide, by decide⟩ ⟨by decide, by decide⟩ rfl rfl (Nat.le_of_ble_eq_true rfl) (r_inI (a := nI 0) (b := _) hO (by decide) rfl (fun r60 hr60 => ?_))
            dsimp only [Option.toList, List.cons_append, List.nil_append]
            refine x_if_eq (tgt := 70) dX5_isSetting_63 (by decide) (fun c63 => ?_) (fun c63 => ?_)
            · have p60 := (ite01 hr60).1 c63
              refine x_iconst (v := nI 0) dX5_isSetting_70 (by decide) ?_
              refine x_iret dX5_isSetting_71 rfl (by first | rfl | assumption) ?_
              first
                | (obtain ⟨j, j0, j5, rfl⟩ := (rng (by decide) (by decide)).mp p40
                   try simp (disch := omega) only [nI_z] at c1
                   try simp (disch := omega) only [nI_eq] at c12
                   try simp (disch := omega) only [nI_eq] at c23
                   try simp (disch := omega) only [nI_eq] at c50
                   refine hq _ (if_pos ⟨p40.1, p40.2, ?_, ?_⟩).symm
                   · rw [nI_clamp (by omega)]
                     unfold leS
                     split <;> first | exact p60.1 | (exfalso; omega)
                   · rw [nI_clamp (by omega)]
                     unfold moS
                     repeat' split
                     all_goals first | exact p60.2 | (exfalso; omega)
                   done)
                | (obtain ⟨j, j0, j5, rfl⟩ := (rng (by decide) (by decide)).mp p40
                   try simp (disch := omega) only [nI_z] at c1
                   try simp (disch := omega) only [nI_eq] at c12
                   try simp (disch := omega) only [nI_eq] at c23
                   try simp (disch := omega) only [nI_eq] at c50
                   refine hq _ (if_neg (fun q9 => p60 ⟨?_, ?_⟩)).symm
                   · have h3 := q9.2.2.1
                     rw [nI_clamp (by omega)] at h3
                     unfold leS at h3
                     split at h3 <;> first | exact h3 | (exfalso; omega)
                   · have h4 := q9.2.2.2
                     rw [nI_clamp (by omega)] at h4
                     unfold moS at h4
                     repeat' split at h4
                     all_goals first | exact h4 | (exfalso; omega)
                   done)
                | exact hq _ (if_neg (fun q9 => p40 ⟨q9.1, q9.2.1⟩)).symm
            · have p60 := (ite01 hr60).2 c63
              refine x_iconst (v := nI 1) dX5_isSetting_66 (by decide) ?_
              refine x_goto (tgt := 71) dX5_isSetting_67 (by decide) ?_
              refine x_iret dX5_isSetting_71 rfl (by first | rfl | assumption) ?_
              first
                | (obtain ⟨j, j0, j5, rfl⟩ := (rng (by decide) (by decide)).mp p40
                   try simp (disch := omega) only [nI_z] at c1
                   try simp (disch := omega) only [nI_eq] at c12
                   try simp (disch := omega) only [nI_eq] at c23
                   try simp (disch := omega) only [nI_eq] at c50
                   refine hq _ (if_pos ⟨p40.1, p40.2, ?_, ?_⟩).symm
                   · rw [nI_clamp (by omega)]
                     unfold leS
                     split <;> first | exact p60.1 | (exfalso; omega)
                   · rw [nI_clamp (by omega)]
                     unfold moS
                     repeat' split
                     all_goals first | exact p60.2 | (exfalso; omega)
                   done)
                | (obtain ⟨j, j0, j5, rfl⟩ := (rng (by decide) (by decide)).mp p40
                   try simp (disch := omega) only [nI_z] at c1
                   try simp (disch := omega) only [nI_eq] at c12
                   try simp (disch := omega) only [nI_eq] at c23
                   try simp (disch := omega) only [nI_eq] at c50
                   refine hq _ (if_neg (fun q9 => p60 ⟨?_, ?_⟩)).symm
                   · have h3 := q9.2.2.1
                     rw [nI_clamp (by omega)] at h3
                     unfold leS at h3
                     split at h3 <;> first | exact h3 | (exfalso; omega)
                   · have h4 := q9.2.2.2
                     rw [nI_clamp (by omega)] at h4
                     unfold moS at h4
                     repeat' split at h4
                     all_goals first | exact h4 | (exfalso; omega)
                   done)
                | exact hq _ (if_neg (fun q9 => p40 ⟨q9.1, q9.2.1⟩)).symm
          · refine x_lconst (v := 1) dX5_isSetting_53 (by decide) ?_
            refine x_goto (tgt := 58) dX5_isSetting_54 (by decide) ?_
            refine x_iload_n dX5_isSetting_58 rfl ?_
            refine x_i2l dX5_isSetting_59 ?_
            refine x_callS (As := [_, _, _]) hO dX5_isSetting_60 o_X5_in s_X5_in l_X5_118 ⟨by decide, by decide⟩ ⟨by decide, by decide⟩ rfl rfl (Nat.le_of_ble_eq_true rfl) (r_inI (a := nI 1) (b := _) hO (by decide) rfl (fun r60 hr60 => ?_))
            dsimp only [Option.toList, List.cons_append, List.nil_append]
            refine x_if_eq (tgt := 70) dX5_isSetting_63 (by decide) (fun c63 => ?_) (fun c63 => ?_)
            · have p60 := (ite01 hr60).1 c63
              refine x_iconst (v := nI 0) dX5_isSetting_70 (by decide) ?_
              refine x_iret dX5_isSetting_71 rfl (by first | rfl | assumption) ?_
              first
                | (obtain ⟨j, j0, j5, rfl⟩ := (rng (by decide) (by decide)).mp p40
                   try simp (disch := omega) only [nI_z] at c1
                   try simp (disch := omega) only [nI_eq] at c12
                   try simp (disch := omega) only [nI_eq] at c23
                   try simp (disch := omega) only [nI_eq] at c50
                   refine hq _ (if_pos ⟨p40.1, p40.2, ?_, ?_⟩).symm
                   · rw [nI_clamp (by omega)]
                     unfold leS
                     split <;> first | exact p60.1 | (exfalso; omega)
                   · rw [nI_clamp (by omega)]
                     unfold moS
                     repeat' split
                     all_goals first | exact p60.2 | (exfalso; omega)
                   done)
                | (obtain ⟨j, j0, j5, rfl⟩ := (rng (by decide) (by decide)).mp p40
                   try simp (disch := omega) only [nI_z] at c1
                   try simp (disch := omega) only [nI_eq] at c12
                   try simp (disch := omega) only [nI_eq] at c23
                   try simp (disch := omega) only [nI_eq] at c50
                   refine hq _ (if_neg (fun q9 => p60 ⟨?_, ?_⟩)).symm
                   · have h3 := q9.2.2.1
                     rw [nI_clamp (by omega)] at h3
                     unfold leS at h3
                     split at h3 <;> first | exact h3 | (exfalso; omega)
                   · have h4 := q9.2.2.2
                     rw [nI_clamp (by omega)] at h4
                     unfold moS at h4
                     repeat' split at h4
                     all_goals first | exact h4 | (exfalso; omega)
                   done)
                | exact hq _ (if_neg (fun q9 => p40 ⟨q9.1, q9.2.1⟩)).symm
            · have p60 := (ite01 hr60).2 c63
              refine x_iconst (v := nI 1) dX5_isSetting_66 (by decide) ?_
              refine x_goto (tgt := 71) dX5_isSetting_67 (by decide) ?_
              refine x_iret dX5_isSetting_71 rfl (by first | rfl | assumption) ?_
              first
                | (obtain ⟨j, j0, j5, rfl⟩ := (rng (by decide) (by decide)).mp p40
                   try simp (disch := omega) only [nI_z] at c1
                   try simp (disch := omega) only [nI_eq] at c12
                   try simp (disch := omega) only [nI_eq] at c23
                   try simp (disch := omega) only [nI_eq] at c50
                   refine hq _ (if_pos ⟨p40.1, p40.2, ?_, ?_⟩).symm
                   · rw [nI_clamp (by omega)]
                     unfold leS
                     split <;> first | exact p60.1 | (exfalso; omega)
                   · rw [nI_clamp (by omega)]
                     unfold moS
                     repeat' split
                     all_goals first | exact p60.2 | (exfalso; omega)
                   done)
                | (obtain ⟨j, j0, j5, rfl⟩ := (rng (by decide) (by decide)).mp p40
                   try simp (disch := omega) only [nI_z] at c1
                   try simp (disch := omega) only [nI_eq] at c12
                   try simp (disch := omega) only [nI_eq] at c23
                   try simp (disch := omega) only [nI_eq] at c50
                   refine hq _ (if_neg (fun q9 => p60 ⟨?_, ?_⟩)).symm
                   · have h3 := q9.2.2.1
                     rw [nI_clamp (by omega)] at h3
                     unfold leS at h3
                     split at h3 <;> first | exact h3 | (exfalso; omega)
                   · have h4 := q9.2.2.2
                     rw [nI_clamp (by omega)] at h4
                     unfold moS at h4
                     repeat' split at h4
                     all_goals first | exact h4 | (exfalso; omega)
                   done)
                | exact hq _ (if_neg (fun q9 => p40 ⟨q9.1, q9.2.1⟩)).symm
      · refine x_bipush (v := nI 23) dX5_isSetting_26 (by decide) ?_
        refine x_goto (tgt := 33) dX5_isSetting_28 (by decide) ?_
        refine x_istore_n dX5_isSetting_33 (by decide) ?_
        refine x_iload_n dX5_isSetting_34 rfl ?_
        refine x_i2l dX5_isSetting_35 ?_
        refine x_lconst (v := 0) dX5_isSetting_36 (by decide) ?_
        refine x_ldc2 hO.1 dX5_isSetting_37 k_X5_130 ?_
        refine x_callS (As := [_, _, _]) hO dX5_isSetting_40 o_X5_in s_X5_in l_X5_118 ⟨by decide, by decide⟩ ⟨by decide, by decide⟩ rfl rfl (Nat.le_of_ble_eq_true rfl) (r_inI (a := nI 0) (b := nI 5) hO (by decide) (by decide) (fun r40 hr40 => ?_))
        dsimp only [Option.toList, List.cons_append, List.nil_append]
        refine x_if_eq (tgt := 70) dX5_isSetting_43 (by decide) (fun c43 => ?_) (fun c43 => ?_)
        · have p40 := (ite01 hr40).1 c43
          refine x_iconst (v := nI 0) dX5_isSetting_70 (by decide) ?_
          refine x_iret dX5_isSetting_71 rfl (by first | rfl | assumption) ?_
          first
            | (obtain ⟨j, j0, j5, rfl⟩ := (rng (by decide) (by decide)).mp p40
               try simp (disch := omega) only [nI_z] at c1
               try simp (disch := omega) only [nI_eq] at c12
               try simp (disch := omega) only [nI_eq] at c23
               try simp (disch := omega) only [nI_eq] at c50
               refine hq _ (if_pos ⟨p40.1, p40.2, ?_, ?_⟩).symm
               · rw [nI_clamp (by omega)]
                 unfold leS
                 split <;> first | exact p60.1 | (exfalso; omega)
               · rw [nI_clamp (by omega)]
                 unfold moS
                 repeat' split
                 all_goals first | exact p60.2 | (exfalso; omega)
               done)
            | (obtain ⟨j, j0, j5, rfl⟩ := (rng (by decide) (by decide)).mp p40
               try simp (disch := omega) only [nI_z] at c1
               try simp (disch := omega) only [nI_eq] at c12
               try simp (disch := omega) only [nI_eq] at c23
               try simp (disch := omega) only [nI_eq] at c50
               refine hq _ (if_neg (fun q9 => p60 ⟨?_, ?_⟩)).symm
               · have h3 := q9.2.2.1
                 rw [nI_clamp (by omega)] at h3
                 unfold leS at h3
                 split at h3 <;> first | exact h3 | (exfalso; omega)
               · have h4 := q9.2.2.2
                 rw [nI_clamp (by omega)] at h4
                 unfold moS at h4
                 repeat' split at h4
                 all_goals first | exact h4 | (exfalso; omega)
               done)
            | exact hq _ (if_neg (fun q9 => p40 ⟨q9.1, q9.2.1⟩)).symm
        · have p40 := (ite01 hr40).2 c43
          refine x_iload_n dX5_isSetting_46 rfl ?_
          refine x_i2l dX5_isSetting_47 ?_
          refine x_iload_n dX5_isSetting_48 rfl ?_
          refine x_iconst (v := nI 4) dX5_isSetting_49 (by decide) ?_
          refine x_icmp_ne (tgt := 57) dX5_isSetting_50 (by decide) (fun c50 => ?_) (fun c50 => ?_)
          · refine x_lconst (v := 0) dX5_isSetting_57 (by decide) ?_
            refine x_iload_n dX5_isSetting_58 rfl ?_
            refine x_i2l dX5_isSetting_59 ?_
            refine x_callS (As := [_, _, _]) hO dX5_isSetting_60 o_X5_in s_X5_in l_X5_118 ⟨by decide, by decide⟩ ⟨by decide, by decide⟩ rfl rfl (Nat.le_of_ble_eq_true rfl) (r_inI (a := nI 0) (b := _) hO (by decide) rfl (fun r60 hr60 => ?_))
            dsimp only [Option.toList, List.cons_append, List.nil_append]
            refine x_if_eq (tgt := 70) dX5_isSetting_63 (by decide) (fun c63 => ?_) (fun c63 => ?_)
            · have p60 := (ite01 hr60).1 c63
              refine x_iconst (v := nI 0) dX5_isSetting_70 (by decide) ?_
              refine x_iret dX5_isSetting_71 rfl (by first | rfl | assumption) ?_
              first
                | (obtain ⟨j, j0, j5, rfl⟩ := (rng (by decide) (by decide)).mp p40
                   try simp (disch := omega) only [nI_z] at c1
                   try simp (disch := omega) only [nI_eq] at c12
                   try simp (disch := omega) only [nI_eq] at c23
                   try simp (disch := omega) only [nI_eq] at c50
                   refine hq _ (if_pos ⟨p40.1, p40.2, ?_, ?_⟩).symm
                   · rw [nI_clamp (by omega)]
                     unfold leS
                     split <;> first | exact p60.1 | (exfalso; omega)
                   · rw [nI_clamp (by omega)]
                     unfold moS
                     repeat' split
                     all_goals first | exact p60.2 | (exfalso; omega)
                   done)
                | (obtain ⟨j, j0, j5, rfl⟩ := (rng (by decide) (by decide)).mp p40
                   try simp (disch := omega) only [nI_z] at c1
                   try simp (disch := omega) only [nI_eq] at c12
                   try simp (disch := omega) only [nI_eq] at c23
                   try simp (disch := omega) only [nI_eq] at c50
                   refine hq _ (if_neg (fun q9 => p60 ⟨?_, ?_⟩)).symm
                   · have h3 := q9.2.2.1
                     rw [nI_clamp (by omega)] at h3
                     unfold leS at h3
                     split at h3 <;> first | exact h3 | (exfalso; omega)
                   · have h4 := q9.2.2.2
                     rw [nI_clamp (by omega)] at h4
                     unfold moS at h4
                     repeat' split at h4
                     all_goals first | exact h4 | (exfalso; omega)
                   done)
                | exact hq _ (if_neg (fun q9 => p40 ⟨q9.1, q9.2.1⟩)).symm
            · have p60 := (ite01 hr60).2 c63
              refine x_iconst (v := nI 1) dX5_isSetting_66 (by decide) ?_
              refine x_goto (tgt := 71) dX5_isSetting_67 (by decide) ?_
              refine x_iret dX5_isSetting_71 rfl (by first | rfl | assumption) ?_
              first
                | (obtain ⟨j, j0, j5, rfl⟩ := (rng (by decide) (by decide)).mp p40
                   try simp (disch := omega) only [nI_z] at c1
                   try simp (disch := omega) only [nI_eq] at c12
                   try simp (disch := omega) only [nI_eq] at c23
                   try simp (disch := omega) only [nI_eq] at c50
                   refine hq _ (if_pos ⟨p40.1, p40.2, ?_, ?_⟩).symm
                   · rw [nI_clamp (by omega)]
                     unfold leS
                     split <;> first | exact p60.1 | (exfalso; omega)
                   · rw [nI_clamp (by omega)]
                     unfold moS
                     repeat' split
                     all_goals first | exact p60.2 | (exfalso; omega)
                   done)
                | (obtain ⟨j, j0, j5, rfl⟩ := (rng (by decide) (by decide)).mp p40
                   try simp (disch := omega) only [nI_z] at c1
                   try simp (disch := omega) only [nI_eq] at c12
                   try simp (disch := omega) only [nI_eq] at c23
                   try simp (disch := omega) only [nI_eq] at c50
                   refine hq _ (if_neg (fun q9 => p60 ⟨?_, ?_⟩)).symm
                   · have h3 := q9.2.2.1
                     rw [nI_clamp (by omega)] at h3
                     unfold leS at h3
                     split at h3 <;> first | exact h3 | (exfalso; omega)
                   · have h4 := q9.2.2.2
                     rw [nI_clamp (by omega)] at h4
                     unfold moS at h4
                     repeat' split at h4
                     all_goals first | exact h4 | (exfalso; omega)
                   done)
                | exact hq _ (if_neg (fun q9 => p40 ⟨q9.1, q9.2.1⟩)).symm
          · refine x_lconst (v := 1) dX5_isSetting_53 (by decide) ?_
            refine x_goto (tgt := 58) dX5_isSetting_54 (by decide) ?_
            refine x_iload_n dX5_isSetting_58 rfl ?_
            refine x_i2l dX5_isSetting_59 ?_
            refine x_callS (As := [_, _, _]) hO dX5_isSetting_60 o_X5_in s_X5_in l_X5_118 ⟨by decide, by decide⟩ ⟨by decide, by decide⟩ rfl rfl (Nat.le_of_ble_eq_true rfl) (r_inI (a := nI 1) (b := _) hO (by decide) rfl (fun r60 hr60 => ?_))
            dsimp only [Option.toList, List.cons_append, List.nil_append]
            refine x_if_eq (tgt := 70) dX5_isSetting_63 (by decide) (fun c63 => ?_) (fun c63 => ?_)
            · have p60 := (ite01 hr60).1 c63
              refine x_iconst (v := nI 0) dX5_isSetting_70 (by decide) ?_
              refine x_iret dX5_isSetting_71 rfl (by first | rfl | assumption) ?_
              first
                | (obtain ⟨j, j0, j5, rfl⟩ := (rng (by decide) (by decide)).mp p40
                   try simp (disch := omega) only [nI_z] at c1
                   try simp (disch := omega) only [nI_eq] at c12
                   try simp (disch := omega) only [nI_eq] at c23
                   try simp (disch := omega) only [nI_eq] at c50
                   refine hq _ (if_pos ⟨p40.1, p40.2, ?_, ?_⟩).symm
                   · rw [nI_clamp (by omega)]
                     unfold leS
                     split <;> first | exact p60.1 | (exfalso; omega)
                   · rw [nI_clamp (by omega)]
                     unfold moS
                     repeat' split
                     all_goals first | exact p60.2 | (exfalso; omega)
                   done)
                | (obtain ⟨j, j0, j5, rfl⟩ := (rng (by decide) (by decide)).mp p40
                   try simp (disch := omega) only [nI_z] at c1
                   try simp (disch := omega) only [nI_eq] at c12
                   try simp (disch := omega) only [nI_eq] at c23
                   try simp (disch := omega) only [nI_eq] at c50
                   refine hq _ (if_neg (fun q9 => p60 ⟨?_, ?_⟩)).symm
                   · have h3 := q9.2.2.1
                     rw [nI_clamp (by omega)] at h3
                     unfold leS at h3
                     split at h3 <;> first | exact h3 | (exfalso; omega)
                   · have h4 := q9.2.2.2
                     rw [nI_clamp (by omega)] at h4
                     unfold moS at h4
                     repeat' split at h4
                     all_goals first | exact h4 | (exfalso; omega)
                   done)
                | exact hq _ (if_neg (fun q9 => p40 ⟨q9.1, q9.2.1⟩)).symm
            · have p60 := (ite01 hr60).2 c63
              refine x_iconst (v := nI 1) dX5_isSetting_66 (by decide) ?_
              refine x_goto (tgt := 71) dX5_isSetting_67 (by decide) ?_
              refine x_iret dX5_isSetting_71 rfl (by first | rfl | assumption) ?_
              first
                | (obtain ⟨j, j0, j5, rfl⟩ := (rng (by decide) (by decide)).mp p40
                   try simp (disch := omega) only [nI_z] at c1
                   try simp (disch := omega) only [nI_eq] at c12
                   try simp (disch := omega) only [nI_eq] at c23
                   try simp (disch := omega) only [nI_eq] at c50
                   refine hq _ (if_pos ⟨p40.1, p40.2, ?_, ?_⟩).symm
                   · rw [nI_clamp (by omega)]
                     unfold leS
                     split <;> first | exact p60.1 | (exfalso; omega)
                   · rw [nI_clamp (by omega)]
                     unfold moS
                     repeat' split
                     all_goals first | exact p60.2 | (exfalso; omega)
                   done)
                | (obtain ⟨j, j0, j5, rfl⟩ := (rng (by decide) (by decide)).mp p40
                   try simp (disch := omega) only [nI_z] at c1
                   try simp (disch := omega) only [nI_eq] at c12
                   try simp (disch := omega) only [nI_eq] at c23
                   try simp (disch := omega) only [nI_eq] at c50
                   refine hq _ (if_neg (fun q9 => p60 ⟨?_, ?_⟩)).symm
                   · have h3 := q9.2.2.1
                     rw [nI_clamp (by omega)] at h3
                     unfold leS at h3
                     split at h3 <;> first | exact h3 | (exfalso; omega)
                   · have h4 := q9.2.2.2
                     rw [nI_clamp (by omega)] at h4
                     unfold moS at h4
                     repeat' split at h4
                     all_goals first | exact h4 | (exfalso; omega)
                   done)
                | exact hq _ (if_neg (fun q9 => p40 ⟨q9.1, q9.2.1⟩)).symm
    · refine x_sipush (v := nI 999) dX5_isSetting_15 (by decide) ?_
      refine x_goto (tgt := 33) dX5_isSetting_18 (by decide) ?_
      refine x_istore_n dX5_isSetting_33 (by decide) ?_
      refine x_iload_n dX5_isSetting_34 rfl ?_
      refine x_i2l dX5_isSetting_35 ?_
      refine x_lconst (v := 0) dX5_isSetting_36 (by decide) ?_
      refine x_ldc2 hO.1 dX5_isSetting_37 k_X5_130 ?_
      refine x_callS (As := [_, _, _]) hO dX5_isSetting_40 o_X5_in s_X5_in l_X5_118 ⟨by decide, by decide⟩ ⟨by decide, by decide⟩ rfl rfl (Nat.le_of_ble_eq_true rfl) (r_inI (a := nI 0) (b := nI 5) hO (by decide) (by decide) (fun r40 hr40 => ?_))
      dsimp only [Option.toList, List.cons_append, List.nil_append]
      refine x_if_eq (tgt := 70) dX5_isSetting_43 (by decide) (fun c43 => ?_) (fun c43 => ?_)
      · have p40 := (ite01 hr40).1 c43
        refine x_iconst (v := nI 0) dX5_isSetting_70 (by decide) ?_
        refine x_iret dX5_isSetting_71 rfl (by first | rfl | assumption) ?_
        first
          | (obtain ⟨j, j0, j5, rfl⟩ := (rng (by decide) (by decide)).mp p40
             try simp (disch := omega) only [nI_z] at c1
             try simp (disch := omega) only [nI_eq] at c12
             try simp (disch := omega) only [nI_eq] at c23
             try simp (disch := omega) only [nI_eq] at c50
             refine hq _ (if_pos ⟨p40.1, p40.2, ?_, ?_⟩).symm
             · rw [nI_clamp (by omega)]
               unfold leS
               split <;> first | exact p60.1 | (exfalso; omega)
             · rw [nI_clamp (by omega)]
               unfold moS
               repeat' split
               all_goals first | exact p60.2 | (exfalso; omega)
             done)
          | (obtain ⟨j, j0, j5, rfl⟩ := (rng (by decide) (by decide)).mp p40
             try simp (disch := omega) only [nI_z] at c1
             try simp (disch := omega) only [nI_eq] at c12
             try simp (disch := omega) only [nI_eq] at c23
             try simp (disch := omega) only [nI_eq] at c50
             refine hq _ (if_neg (fun q9 => p60 ⟨?_, ?_⟩)).symm
             · have h3 := q9.2.2.1
               rw [nI_clamp (by omega)] at h3
               unfold leS at h3
               split at h3 <;> first | exact h3 | (exfalso; omega)
             · have h4 := q9.2.2.2
               rw [nI_clamp (by omega)] at h4
               unfold moS at h4
               repeat' split at h4
               all_goals first | exact h4 | (exfalso; omega)
             done)
          | exact hq _ (if_neg (fun q9 => p40 ⟨q9.1, q9.2.1⟩)).symm
      · have p40 := (ite01 hr40).2 c43
        refine x_iload_n dX5_isSetting_46 rfl ?_
        refine x_i2l dX5_isSetting_47 ?_
        refine x_iload_n dX5_isSetting_48 rfl ?_
        refine x_iconst (v := nI 4) dX5_isSetting_49 (by decide) ?_
        refine x_icmp_ne (tgt := 57) dX5_isSetting_50 (by decide) (fun c50 => ?_) (fun c50 => ?_)
        · refine x_lconst (v := 0) dX5_isSetting_57 (by decide) ?_
          refine x_iload_n dX5_isSetting_58 rfl ?_
          refine x_i2l dX5_isSetting_59 ?_
          refine x_callS (As := [_, _, _]) hO dX5_isSetting_60 o_X5_in s_X5_in l_X5_118 ⟨by decide, by decide⟩ ⟨by decide, by decide⟩ rfl rfl (Nat.le_of_ble_eq_true rfl) (r_inI (a := nI 0) (b := _) hO (by decide) rfl (fun r60 hr60 => ?_))
          dsimp only [Option.toList, List.cons_append, List.nil_append]
          refine x_if_eq (tgt := 70) dX5_isSetting_63 (by decide) (fun c63 => ?_) (fun c63 => ?_)
          · have p60 := (ite01 hr60).1 c63
            refine x_iconst (v := nI 0) dX5_isSetting_70 (by decide) ?_
            refine x_iret dX5_isSetting_71 rfl (by first | rfl | assumption) ?_
            first
              | (obtain ⟨j, j0, j5, rfl⟩ := (rng (by decide) (by decide)).mp p40
                 try simp (disch := omega) only [nI_z] at c1
                 try simp (disch := omega) only [nI_eq] at c12
                 try simp (disch := omega) only [nI_eq] at c23
                 try simp (disch := omega) only [nI_eq] at c50
                 refine hq _ (if_pos ⟨p40.1, p40.2, ?_, ?_⟩).symm
                 · rw [nI_clamp (by omega)]
                   unfold leS
                   split <;> first | exact p60.1 | (exfalso; omega)
                 · rw [nI_clamp (by omega)]
                   unfold moS
                   repeat' split
                   all_goals first | exact p60.2 | (exfalso; omega)
                 done)
              | (obtain ⟨j, j0, j5, rfl⟩ := (rng (by decide) (by decide)).mp p40
                 try simp (disch := omega) only [nI_z] at c1
                 try simp (disch := omega) only [nI_eq] at c12
                 try simp (disch := omega) only [nI_eq] at c23
                 try simp (disch := omega) only [nI_eq] at c50
                 refine hq _ (if_neg (fun q9 => p60 ⟨?_, ?_⟩)).symm
                 · have h3 := q9.2.2.1
                   rw [nI_clamp (by omega)] at h3
                   unfold leS at h3
                   split at h3 <;> first | exact h3 | (exfalso; omega)
                 · have h4 := q9.2.2.2
                   rw [nI_clamp (by omega)] at h4
                   unfold moS at h4
                   repeat' split at h4
                   all_goals first | exact h4 | (exfalso; omega)
                 done)
              | exact hq _ (if_neg (fun q9 => p40 ⟨q9.1, q9.2.1⟩)).symm
          · have p60 := (ite01 hr60).2 c63
            refine x_iconst (v := nI 1) dX5_isSetting_66 (by decide) ?_
            refine x_goto (tgt := 71) dX5_isSetting_67 (by decide) ?_
            refine x_iret dX5_isSetting_71 rfl (by first | rfl | assumption) ?_
            first
              | (obtain ⟨j, j0, j5, rfl⟩ := (rng (by decide) (by decide)).mp p40
                 try simp (disch := omega) only [nI_z] at c1
                 try simp (disch := omega) only [nI_eq] at c12
                 try simp (disch := omega) only [nI_eq] at c23
                 try simp (disch := omega) only [nI_eq] at c50
                 refine hq _ (if_pos ⟨p40.1, p40.2, ?_, ?_⟩).symm
                 · rw [nI_clamp (by omega)]
                   unfold leS
                   split <;> first | exact p60.1 | (exfalso; omega)
                 · rw [nI_clamp (by omega)]
                   unfold moS
                   repeat' split
                   all_goals first | exact p60.2 | (exfalso; omega)
                 done)
              | (obtain ⟨j, j0, j5, rfl⟩ := (rng (by decide) (by decide)).mp p40
                 try simp (disch := omega) only [nI_z] at c1
                 try simp (disch := omega) only [nI_eq] at c12
                 try simp (disch := omega) only [nI_eq] at c23
                 try simp (disch := omega) only [nI_eq] at c50
                 refine hq _ (if_neg (fun q9 => p60 ⟨?_, ?_⟩)).symm
                 · have h3 := q9.2.2.1
                   rw [nI_clamp (by omega)] at h3
                   unfold leS at h3
                   split at h3 <;> first | exact h3 | (exfalso; omega)
                 · have h4 := q9.2.2.2
                   rw [nI_clamp (by omega)] at h4
                   unfold moS at h4
                   repeat' split at h4
                   all_goals first | exact h4 | (exfalso; omega)
                 done)
              | exact hq _ (if_neg (fun q9 => p40 ⟨q9.1, q9.2.1⟩)).symm
        · refine x_lconst (v := 1) dX5_isSetting_53 (by decide) ?_
          refine x_goto (tgt := 58) dX5_isSetting_54 (by decide) ?_
          refine x_iload_n dX5_isSetting_58 rfl ?_
          refine x_i2l dX5_isSetting_59 ?_
          refine x_callS (As := [_, _, _]) hO dX5_isSetting_60 o_X5_in s_X5_in l_X5_118 ⟨by decide, by decide⟩ ⟨by decide, by decide⟩ rfl rfl (Nat.le_of_ble_eq_true rfl) (r_inI (a := nI 1) (b := _) hO (by decide) rfl (fun r60 hr60 => ?_))
          dsimp only [Option.toList, List.cons_append, List.nil_append]
          refine x_if_eq (tgt := 70) dX5_isSetting_63 (by decide) (fun c63 => ?_) (fun c63 => ?_)
          · have p60 := (ite01 hr60).1 c63
            refine x_iconst (v := nI 0) dX5_isSetting_70 (by decide) ?_
            refine x_iret dX5_isSetting_71 rfl (by first | rfl | assumption) ?_
            first
              | (obtain ⟨j, j0, j5, rfl⟩ := (rng (by decide) (by decide)).mp p40
                 try simp (disch := omega) only [nI_z] at c1
                 try simp (disch := omega) only [nI_eq] at c12
                 try simp (disch := omega) only [nI_eq] at c23
                 try simp (disch := omega) only [nI_eq] at c50
                 refine hq _ (if_pos ⟨p40.1, p40.2, ?_, ?_⟩).symm
                 · rw [nI_clamp (by omega)]
                   unfold leS
                   split <;> first | exact p60.1 | (exfalso; omega)
                 · rw [nI_clamp (by omega)]
                   unfold moS
                   repeat' split
                   all_goals first | exact p60.2 | (exfalso; omega)
                 done)
              | (obtain ⟨j, j0, j5, rfl⟩ := (rng (by decide) (by decide)).mp p40
                 try simp (disch := omega) only [nI_z] at c1
                 try simp (disch := omega) only [nI_eq] at c12
                 try simp (disch := omega) only [nI_eq] at c23
                 try simp (disch := omega) only [nI_eq] at c50
                 refine hq _ (if_neg (fun q9 => p60 ⟨?_, ?_⟩)).symm
                 · have h3 := q9.2.2.1
                   rw [nI_clamp (by omega)] at h3
                   unfold leS at h3
                   split at h3 <;> first | exact h3 | (exfalso; omega)
                 · have h4 := q9.2.2.2
                   rw [nI_clamp (by omega)] at h4
                   unfold moS at h4
                   repeat' split at h4
                   all_goals first | exact h4 | (exfalso; omega)
                 done)
              | exact hq _ (if_neg (fun q9 => p40 ⟨q9.1, q9.2.1⟩)).symm
          · have p60 := (ite01 hr60).2 c63
            refine x_iconst (v := nI 1) dX5_isSetting_66 (by decide) ?_
            refine x_goto (tgt := 71) dX5_isSetting_67 (by decide) ?_
            refine x_iret dX5_isSetting_71 rfl (by first | rfl | assumption) ?_
            first
              | (obtain ⟨j, j0, j5, rfl⟩ := (rng (by decide) (by decide)).mp p40
                 try simp (disch := omega) only [nI_z] at c1
                 try simp (disch := omega) only [nI_eq] at c12
                 try simp (disch := omega) only [nI_eq] at c23
                 try simp (disch := omega) only [nI_eq] at c50
                 refine hq _ (if_pos ⟨p40.1, p40.2, ?_, ?_⟩).symm
                 · rw [nI_clamp (by omega)]
                   unfold leS
                   split <;> first | exact p60.1 | (exfalso; omega)
                 · rw [nI_clamp (by omega)]
                   unfold moS
                   repeat' split
                   all_goals first | exact p60.2 | (exfalso; omega)
                 done)
              | (obtain ⟨j, j0, j5, rfl⟩ := (rng (by decide) (by decide)).mp p40
                 try simp (disch := omega) only [nI_z] at c1
                 try simp (disch := omega) only [nI_eq] at c12
                 try simp (disch := omega) only [nI_eq] at c23
                 try simp (disch := omega) only [nI_eq] at c50
                 refine hq _ (if_neg (fun q9 => p60 ⟨?_, ?_⟩)).symm
                 · have h3 := q9.2.2.1
                   rw [nI_clamp (by omega)] at h3
                   unfold leS at h3
                   split at h3 <;> first | exact h3 | (exfalso; omega)
                 · have h4 := q9.2.2.2
                   rw [nI_clamp (by omega)] at h4
                   unfold moS at h4
                   repeat' split at h4
                   all_goals first | exact h4 | (exfalso; omega)
                 done)
              | exact hq _ (if_neg (fun q9 => p40 ⟨q9.1, q9.2.1⟩)).symm
  · refine x_sipush (v := nI 250) dX5_isSetting_4 (by decide) ?_
    refine x_goto (tgt := 33) dX5_isSetting_7 (by decide) ?_
    refine x_istore_n dX5_isSetting_33 (by decide) ?_
    refine x_iload_n dX5_isSetting_34 rfl ?_
    refine x_i2l dX5_isSetting_35 ?_
    refine x_lconst (v := 0) dX5_isSetting_36 (by decide) ?_
    refine x_ldc2 hO.1 dX5_isSetting_37 k_X5_130 ?_
    refine x_callS (As := [_, _, _]) hO dX5_isSetting_40 o_X5_in s_X5_in l_X5_118 ⟨by decide, by decide⟩ ⟨by decide, by decide⟩ rfl rfl (Nat.le_of_ble_eq_true rfl) (r_inI (a := nI 0) (b := nI 5) hO (by decide) (by decide) (fun r40 hr40 => ?_))
    dsimp only [Option.toList, List.cons_append, List.nil_append]
    refine x_if_eq (tgt := 70) dX5_isSetting_43 (by decide) (fun c43 => ?_) (fun c43 => ?_)
    · have p40 := (ite01 hr40).1 c43
      refine x_iconst (v := nI 0) dX5_isSetting_70 (by decide) ?_
      refine x_iret dX5_isSetting_71 rfl (by first | rfl | assumption) ?_
      first
        | (obtain ⟨j, j0, j5, rfl⟩ := (rng (by decide) (by decide)).mp p40
           try simp (disch := omega) only [nI_z] at c1
           try simp (disch := omega) only [nI_eq] at c12
           try simp (disch := omega) only [nI_eq] at c23
           try simp (disch := omega) only [nI_eq] at c50
           refine hq _ (if_pos ⟨p40.1, p40.2, ?_, ?_⟩).symm
           · rw [nI_clamp (by omega)]
             unfold leS
             split <;> first | exact p60.1 | (exfalso; omega)
           · rw [nI_clamp (by omega)]
             unfold moS
             repeat' split
             all_goals first | exact p60.2 | (exfalso; omega)
           done)
        | (obtain ⟨j, j0, j5, rfl⟩ := (rng (by decide) (by decide)).mp p40
           try simp (disch := omega) only [nI_z] at c1
           try simp (disch := omega) only [nI_eq] at c12
           try simp (disch := omega) only [nI_eq] at c23
           try simp (disch := omega) only [nI_eq] at c50
           refine hq _ (if_neg (fun q9 => p60 ⟨?_, ?_⟩)).symm
           · have h3 := q9.2.2.1
             rw [nI_clamp (by omega)] at h3
             unfold leS at h3
             split at h3 <;> first | exact h3 | (exfalso; omega)
           · have h4 := q9.2.2.2
             rw [nI_clamp (by omega)] at h4
             unfold moS at h4
             repeat' split at h4
             all_goals first | exact h4 | (exfalso; omega)
           done)
        | exact hq _ (if_neg (fun q9 => p40 ⟨q9.1, q9.2.1⟩)).symm
    · have p40 := (ite01 hr40).2 c43
      refine x_iload_n dX5_isSetting_46 rfl ?_
      refine x_i2l dX5_isSetting_47 ?_
      refine x_iload_n dX5_isSetting_48 rfl ?_
      refine x_iconst (v := nI 4) dX5_isSetting_49 (by decide) ?_
      refine x_icmp_ne (tgt := 57) dX5_isSetting_50 (by decide) (fun c50 => ?_) (fun c50 => ?_)
      · refine x_lconst (v := 0) dX5_isSetting_57 (by decide) ?_
        refine x_iload_n dX5_isSetting_58 rfl ?_
        refine x_i2l dX5_isSetting_59 ?_
        refine x_callS (As := [_, _, _]) hO dX5_isSetting_60 o_X5_in s_X5_in l_X5_118 ⟨by decide, by decide⟩ ⟨by decide, by decide⟩ rfl rfl (Nat.le_of_ble_eq_true rfl) (r_inI (a := nI 0) (b := _) hO (by decide) rfl (fun r60 hr60 => ?_))
        dsimp only [Option.toList, List.cons_append, List.nil_append]
        refine x_if_eq (tgt := 70) dX5_isSetting_63 (by decide) (fun c63 => ?_) (fun c63 => ?_)
        · have p60 := (ite01 hr60).1 c63
          refine x_iconst (v := nI 0) dX5_isSetting_70 (by decide) ?_
          refine x_iret dX5_isSetting_71 rfl (by first | rfl | assumption) ?_
          first
            | (obtain ⟨j, j0, j5, rfl⟩ := (rng (by decide) (by decide)).mp p40
               try simp (disch := omega) only [nI_z] at c1
               try simp (disch := omega) only [nI_eq] at c12
               try simp (disch := omega) only [nI_eq] at c23
               try simp (disch := omega) only [nI_eq] at c50
               refine hq _ (if_pos ⟨p40.1, p40.2, ?_, ?_⟩).symm
               · rw [nI_clamp (by omega)]
                 unfold leS
                 split <;> first | exact p60.1 | (exfalso; omega)
               · rw [nI_clamp (by omega)]
                 unfold moS
                 repeat' split
                 all_goals first | exact p60.2 | (exfalso; omega)
               done)
            | (obtain ⟨j, j0, j5, rfl⟩ := (rng (by decide) (by decide)).mp p40
               try simp (disch := omega) only [nI_z] at c1
               try simp (disch := omega) only [nI_eq] at c12
               try simp (disch := omega) only [nI_eq] at c23
               try simp (disch := omega) only [nI_eq] at c50
               refine hq _ (if_neg (fun q9 => p60 ⟨?_, ?_⟩)).symm
               · have h3 := q9.2.2.1
                 rw [nI_clamp (by omega)] at h3
                 unfold leS at h3
                 split at h3 <;> first | exact h3 | (exfalso; omega)
               · have h4 := q9.2.2.2
                 rw [nI_clamp (by omega)] at h4
                 unfold moS at h4
                 repeat' split at h4
                 all_goals first | exact h4 | (exfalso; omega)
               done)
            | exact hq _ (if_neg (fun q9 => p40 ⟨q9.1, q9.2.1⟩)).symm
        · have p60 := (ite01 hr60).2 c63
          refine x_iconst (v := nI 1) dX5_isSetting_66 (by decide) ?_
          refine x_goto (tgt := 71) dX5_isSetting_67 (by decide) ?_
          refine x_iret dX5_isSetting_71 rfl (by first | rfl | assumption) ?_
          first
            | (obtain ⟨j, j0, j5, rfl⟩ := (rng (by decide) (by decide)).mp p40
               try simp (disch := omega) only [nI_z] at c1
               try simp (disch := omega) only [nI_eq] at c12
               try simp (disch := omega) only [nI_eq] at c23
               try simp (disch := omega) only [nI_eq] at c50
               refine hq _ (if_pos ⟨p40.1, p40.2, ?_, ?_⟩).symm
               · rw [nI_clamp (by omega)]
                 unfold leS
                 split <;> first | exact p60.1 | (exfalso; omega)
               · rw [nI_clamp (by omega)]
                 unfold moS
                 repeat' split
                 all_goals first | exact p60.2 | (exfalso; omega)
               done)
            | (obtain ⟨j, j0, j5, rfl⟩ := (rng (by decide) (by decide)).mp p40
               try simp (disch := omega) only [nI_z] at c1
               try simp (disch := omega) only [nI_eq] at c12
               try simp (disch := omega) only [nI_eq] at c23
               try simp (disch := omega) only [nI_eq] at c50
               refine hq _ (if_neg (fun q9 => p60 ⟨?_, ?_⟩)).symm
               · have h3 := q9.2.2.1
                 rw [nI_clamp (by omega)] at h3
                 unfold leS at h3
                 split at h3 <;> first | exact h3 | (exfalso; omega)
               · have h4 := q9.2.2.2
                 rw [nI_clamp (by omega)] at h4
                 unfold moS at h4
                 repeat' split at h4
                 all_goals first | exact h4 | (exfalso; omega)
               done)
            | exact hq _ (if_neg (fun q9 => p40 ⟨q9.1, q9.2.1⟩)).symm
      · refine x_lconst (v := 1) dX5_isSetting_53 (by decide) ?_
        refine x_goto (tgt := 58) dX5_isSetting_54 (by decide) ?_
        refine x_iload_n dX5_isSetting_58 rfl ?_
        refine x_i2l dX5_isSetting_59 ?_
        refine x_callS (As := [_, _, _]) hO dX5_isSetting_60 o_X5_in s_X5_in l_X5_118 ⟨by decide, by decide⟩ ⟨by decide, by decide⟩ rfl rfl (Nat.le_of_ble_eq_true rfl) (r_inI (a := nI 1) (b := _) hO (by decide) rfl (fun r60 hr60 => ?_))
        dsimp only [Option.toList, List.cons_append, List.nil_append]
        refine x_if_eq (tgt := 70) dX5_isSetting_63 (by decide) (fun c63 => ?_) (fun c63 => ?_)
        · have p60 := (ite01 hr60).1 c63
          refine x_iconst (v := nI 0) dX5_isSetting_70 (by decide) ?_
          refine x_iret dX5_isSetting_71 rfl (by first | rfl | assumption) ?_
          first
            | (obtain ⟨j, j0, j5, rfl⟩ := (rng (by decide) (by decide)).mp p40
               try simp (disch := omega) only [nI_z] at c1
               try simp (disch := omega) only [nI_eq] at c12
               try simp (disch := omega) only [nI_eq] at c23
               try simp (disch := omega) only [nI_eq] at c50
               refine hq _ (if_pos ⟨p40.1, p40.2, ?_, ?_⟩).symm
               · rw [nI_clamp (by omega)]
                 unfold leS
                 split <;> first | exact p60.1 | (exfalso; omega)
               · rw [nI_clamp (by omega)]
                 unfold moS
                 repeat' split
                 all_goals first | exact p60.2 | (exfalso; omega)
               done)
            | (obtain ⟨j, j0, j5, rfl⟩ := (rng (by decide) (by decide)).mp p40
               try simp (disch := omega) only [nI_z] at c1
               try simp (disch := omega) only [nI_eq] at c12
               try simp (disch := omega) only [nI_eq] at c23
               try simp (disch := omega) only [nI_eq] at c50
               refine hq _ (if_neg (fun q9 => p60 ⟨?_, ?_⟩)).symm
               · have h3 := q9.2.2.1
                 rw [nI_clamp (by omega)] at h3
                 unfold leS at h3
                 split at h3 <;> first | exact h3 | (exfalso; omega)
               · have h4 := q9.2.2.2
                 rw [nI_clamp (by omega)] at h4
                 unfold moS at h4
                 repeat' split at h4
                 all_goals first | exact h4 | (exfalso; omega)
               done)
            | exact hq _ (if_neg (fun q9 => p40 ⟨q9.1, q9.2.1⟩)).symm
        · have p60 := (ite01 hr60).2 c63
          refine x_iconst (v := nI 1) dX5_isSetting_66 (by decide) ?_
          refine x_goto (tgt := 71) dX5_isSetting_67 (by decide) ?_
          refine x_iret dX5_isSetting_71 rfl (by first | rfl | assumption) ?_
          first
            | (obtain ⟨j, j0, j5, rfl⟩ := (rng (by decide) (by decide)).mp p40
               try simp (disch := omega) only [nI_z] at c1
               try simp (disch := omega) only [nI_eq] at c12
               try simp (disch := omega) only [nI_eq] at c23
               try simp (disch := omega) only [nI_eq] at c50
               refine hq _ (if_pos ⟨p40.1, p40.2, ?_, ?_⟩).symm
               · rw [nI_clamp (by omega)]
                 unfold leS
                 split <;> first | exact p60.1 | (exfalso; omega)
               · rw [nI_clamp (by omega)]
                 unfold moS
                 repeat' split
                 all_goals first | exact p60.2 | (exfalso; omega)
               done)
            | (obtain ⟨j, j0, j5, rfl⟩ := (rng (by decide) (by decide)).mp p40
               try simp (disch := omega) only [nI_z] at c1
               try simp (disch := omega) only [nI_eq] at c12
               try simp (disch := omega) only [nI_eq] at c23
               try simp (disch := omega) only [nI_eq] at c50
               refine hq _ (if_neg (fun q9 => p60 ⟨?_, ?_⟩)).symm
               · have h3 := q9.2.2.1
                 rw [nI_clamp (by omega)] at h3
                 unfold leS at h3
                 split at h3 <;> first | exact h3 | (exfalso; omega)
               · have h4 := q9.2.2.2
                 rw [nI_clamp (by omega)] at h4
                 unfold moS at h4
                 repeat' split at h4
                 all_goals first | exact h4 | (exfalso; omega)
               done)
            | exact hq _ (if_neg (fun q9 => p40 ⟨q9.1, q9.2.1⟩)).symm

theorem addB_u {ρ : Rw} {s c n l k : Nat} : uN (uN (uN (uN (uN (uN (uN (uN ρ (bi (ρ 1) 0) s) (bi (ρ 1) 1) c) (bi (ρ 1) 2) n) (bi (ρ 1) 3) l) (bi (ρ 1) 4) k) (bi (ρ 1) 5) 0) (bi (ρ 1) 6) 0) 1 (ρ 1 + 1) = addB ρ s c n l k := by
  funext j
  simp only [addB, uN]
  repeat' split
  all_goals first | rfl | (exfalso; simp only [bi] at *; omega)
theorem r_addBusIn {G : GT} {C : AH} {Q : QT} {X : XT} {a : Nat} {ρ : Rw} {s c n l k : Nat} (hO : GO G) (hA : RowS C a) (hV : Vr (gI C) a ρ) (h8 : ρ 1 < 8) (hq : ∀ f : Nat → Nat → Int32, Vr f a (addB ρ s c n l k) → (∀ b : Nat, b ≠ a → f b = gI C b) → Q (some (.int (nI (ρ 1)))) (wI C f)) : Mt G M_X5_addBusIn [.ref a, .int (nI s), .int (nI c), .int (nI n), .int (nI l), .int (nI k)] C Q X := by
  refine Mt_of (by decide) (Nat.le_of_ble_eq_true rfl) ?_
  refine x_aload_n dX5_addBusIn_0 rfl ?_
  refine x_iconst (v := nI 1) dX5_addBusIn_1 (by decide) ?_
  refine x_row 1 hO dX5_addBusIn_2 hA hV rfl (by decide) ?_
  refine x_istore dX5_addBusIn_3 (by decide) ?_
  refine x_aload_n dX5_addBusIn_5 rfl ?_
  refine x_iload dX5_addBusIn_6 rfl ?_
  refine x_iconst (v := nI 0) dX5_addBusIn_8 (by decide) ?_
  refine x_callS (As := [_, _]) hO dX5_addBusIn_9 o_X5_busAt s_X5_busAt l_X5_67 ⟨by decide, by decide⟩ ⟨by decide, by decide⟩ rfl rfl (Nat.le_of_ble_eq_true rfl) (r_busAt hO ?_)
  dsimp only [Option.toList, List.cons_append, List.nil_append]
  refine x_iload_n dX5_addBusIn_12 rfl ?_
  refine x_rowS (bi (ρ 1) 0) (s) hO dX5_addBusIn_13 hA hV rfl (by simp only [bi]; omega) rfl (fun f13 v13 r13 => ?_)
  refine x_aload_n dX5_addBusIn_14 rfl ?_
  refine x_iload dX5_addBusIn_15 rfl ?_
  refine x_iconst (v := nI 1) dX5_addBusIn_17 (by decide) ?_
  refine x_callS (As := [_, _]) hO dX5_addBusIn_18 o_X5_busAt s_X5_busAt l_X5_67 ⟨by decide, by decide⟩ ⟨by decide, by decide⟩ rfl rfl (Nat.le_of_ble_eq_true rfl) (r_busAt hO ?_)
  dsimp only [Option.toList, List.cons_append, List.nil_append]
  refine x_iload_n dX5_addBusIn_21 rfl ?_
  refine x_rowS (bi (ρ 1) 1) (c) hO dX5_addBusIn_22 hA v13 rfl (by simp only [bi]; omega) rfl (fun f22 v22 r22 => ?_)
  refine x_aload_n dX5_addBusIn_23 rfl ?_
  refine x_iload dX5_addBusIn_24 rfl ?_
  refine x_iconst (v := nI 2) dX5_addBusIn_26 (by decide) ?_
  refine x_callS (As := [_, _]) hO dX5_addBusIn_27 o_X5_busAt s_X5_busAt l_X5_67 ⟨by decide, by decide⟩ ⟨by decide, by decide⟩ rfl rfl (Nat.le_of_ble_eq_true rfl) (r_busAt hO ?_)
  dsimp only [Option.toList, List.cons_append, List.nil_append]
  refine x_iload_n dX5_addBusIn_30 rfl ?_
  refine x_rowS (bi (ρ 1) 2) (n) hO dX5_addBusIn_31 hA v22 rfl (by simp only [bi]; omega) rfl (fun f31 v31 r31 => ?_)
  refine x_aload_n dX5_addBusIn_32 rfl ?_
  refine x_iload dX5_addBusIn_33 rfl ?_
  refine x_iconst (v := nI 3) dX5_addBusIn_35 (by decide) ?_
  refine x_callS (As := [_, _]) hO dX5_addBusIn_36 o_X5_busAt s_X5_busAt l_X5_67 ⟨by decide, by decide⟩ ⟨by decide, by decide⟩ rfl rfl (Nat.le_of_ble_eq_true rfl) (r_busAt hO ?_)
  dsimp only [Option.toList, List.cons_append, List.nil_append]
  refine x_iload dX5_addBusIn_39 rfl ?_
  refine x_rowS (bi (ρ 1) 3) (l) hO dX5_addBusIn_41 hA v31 rfl (by simp only [bi]; omega) rfl (fun f41 v41 r41 => ?_)
  refine x_aload_n dX5_addBusIn_42 rfl ?_
  refine x_iload dX5_addBusIn_43 rfl ?_
  refine x_iconst (v := nI 4) dX5_addBusIn_45 (by decide) ?_
  refine x_callS (As := [_, _]) hO dX5_addBusIn_46 o_X5_busAt s_X5_busAt l_X5_67 ⟨by decide, by decide⟩ ⟨by decide, by decide⟩ rfl rfl (Nat.le_of_ble_eq_true rfl) (r_busAt hO ?_)
  dsimp only [Option.toList, List.cons_append, List.nil_append]
  refine x_iload dX5_addBusIn_49 rfl ?_
  refine x_rowS (bi (ρ 1) 4) (k) hO dX5_addBusIn_51 hA v41 rfl (by simp only [bi]; omega) rfl (fun f51 v51 r51 => ?_)
  refine x_aload_n dX5_addBusIn_52 rfl ?_
  refine x_iload dX5_addBusIn_53 rfl ?_
  refine x_iconst (v := nI 5) dX5_addBusIn_55 (by decide) ?_
  refine x_callS (As := [_, _]) hO dX5_addBusIn_56 o_X5_busAt s_X5_busAt l_X5_67 ⟨by decide, by decide⟩ ⟨by decide, by decide⟩ rfl rfl (Nat.le_of_ble_eq_true rfl) (r_busAt hO ?_)
  dsimp only [Option.toList, List.cons_append, List.nil_append]
  refine x_iconst (v := nI 0) dX5_addBusIn_59 (by decide) ?_
  refine x_rowS (bi (ρ 1) 5) (0) hO dX5_addBusIn_60 hA v51 rfl (by simp only [bi]; omega) rfl (fun f60 v60 r60 => ?_)
  refine x_aload_n dX5_addBusIn_61 rfl ?_
  refine x_iload dX5_addBusIn_62 rfl ?_
  refine x_bipush (v := nI 6) dX5_addBusIn_64 (by decide) ?_
  refine x_callS (As := [_, _]) hO dX5_addBusIn_66 o_X5_busAt s_X5_busAt l_X5_67 ⟨by decide, by decide⟩ ⟨by decide, by decide⟩ rfl rfl (Nat.le_of_ble_eq_true rfl) (r_busAt hO ?_)
  dsimp only [Option.toList, List.cons_append, List.nil_append]
  refine x_iconst (v := nI 0) dX5_addBusIn_69 (by decide) ?_
  refine x_rowS (bi (ρ 1) 6) (0) hO dX5_addBusIn_70 hA v60 rfl (by simp only [bi]; omega) rfl (fun f70 v70 r70 => ?_)
  refine x_aload_n dX5_addBusIn_71 rfl ?_
  refine x_iconst (v := nI 1) dX5_addBusIn_72 (by decide) ?_
  refine x_dup2 dX5_addBusIn_73 rfl rfl ?_
  refine x_row 1 hO dX5_addBusIn_74 hA v70 rfl (by decide) ?_
  rw [uN_n (by (try simp only [bi]); omega), uN_n (by (try simp only [bi]); omega), uN_n (by (try simp only [bi]); omega), uN_n (by (try simp only [bi]); omega), uN_n (by (try simp only [bi]); omega), uN_n (by (try simp only [bi]); omega), uN_n (by (try simp only [bi]); omega)]
  refine x_iconst (v := nI 1) dX5_addBusIn_75 (by decide) ?_
  refine x_iadd dX5_addBusIn_76 ?_
  refine x_rowS 1 (ρ 1 + 1) hO dX5_addBusIn_77 hA v70 rfl (by decide) (nI_add _ _) (fun f77 v77 r77 => ?_)
  refine x_iload dX5_addBusIn_78 rfl ?_
  refine x_iret dX5_addBusIn_80 rfl rfl ?_
  rw [addB_u] at v77
  exact hq f77 v77 (fun b hb => (r77 b hb).trans ((r70 b hb).trans ((r60 b hb).trans ((r51 b hb).trans ((r41 b hb).trans ((r31 b hb).trans ((r22 b hb).trans (r13 b hb))))))))
theorem r_addPlugIn {G : GT} {C : AH} {Q : QT} {X : XT} {a : Nat} {ρ : Rw} {p : Nat} (hO : GO G) (hA : RowS C a) (hV : Vr (gI C) a ρ) (h5 : ρ 2 < 5) (hq : ∀ f : Nat → Nat → Int32, Vr f a (addC ρ p) → (∀ b : Nat, b ≠ a → f b = gI C b) → Q (some (.int (nI (ρ 2)))) (wI C f)) : Mt G M_X5_addPlugIn [.ref a, .int (nI p)] C Q X := by
  refine Mt_of (by decide) (Nat.le_of_ble_eq_true rfl) ?_
  refine x_aload_n dX5_addPlugIn_0 rfl ?_
  refine x_bipush (v := nI 69) dX5_addPlugIn_1 (by decide) ?_
  refine x_aload_n dX5_addPlugIn_3 rfl ?_
  refine x_iconst (v := nI 2) dX5_addPlugIn_4 (by decide) ?_
  refine x_row 2 hO dX5_addPlugIn_5 hA hV rfl (by decide) ?_
  refine x_iadd dX5_addPlugIn_6 ?_
  refine x_iload_n dX5_addPlugIn_7 rfl ?_
  refine x_rowS (69 + ρ 2) p hO dX5_addPlugIn_8 hA hV (nI_add _ _) (by omega) rfl (fun f8 v8 r8 => ?_)
  refine x_aload_n dX5_addPlugIn_9 rfl ?_
  refine x_iconst (v := nI 2) dX5_addPlugIn_10 (by decide) ?_
  refine x_dup2 dX5_addPlugIn_11 rfl rfl ?_
  refine x_row 2 hO dX5_addPlugIn_12 hA v8 rfl (by decide) ?_
  rw [uN_n (by omega)]
  refine x_iconst (v := nI 1) dX5_addPlugIn_13 (by decide) ?_
  refine x_iadd dX5_addPlugIn_14 ?_
  refine x_rowS 2 (ρ 2 + 1) hO dX5_addPlugIn_15 hA v8 rfl (by decide) (nI_add _ _) (fun f15 v15 r15 => ?_)
  refine x_aload_n dX5_addPlugIn_16 rfl ?_
  refine x_iconst (v := nI 2) dX5_addPlugIn_17 (by decide) ?_
  refine x_row 2 hO dX5_addPlugIn_18 hA v15 rfl (by decide) ?_
  refine x_iconst (v := nI 1) dX5_addPlugIn_19 (by decide) ?_
  refine x_isub dX5_addPlugIn_20 ?_
  rw [uN_s, pk_sub (by omega), Nat.add_sub_cancel]
  refine x_iret dX5_addPlugIn_21 rfl rfl ?_
  exact hq f15 v15 (fun b hb => (r15 b hb).trans (r8 b hb))
theorem r_routeIn {G : GT} {C : AH} {Q : QT} {X : XT} {a : Nat} {ρ : Rw} {b n l k : Nat} (hO : GO G) (hA : RowS C a) (hV : Vr (gI C) a ρ) (hb : b < 8) (hq : ∀ f : Nat → Nat → Int32, Vr f a (rtB ρ b n l k) → (∀ b : Nat, b ≠ a → f b = gI C b) → Q (some (.int (nI (ρ (bi b 2))))) (wI C f)) : Mt G M_X5_routeIn [.ref a, .int (nI b), .int (nI n), .int (nI l), .int (nI k)] C Q X := by
  refine Mt_of (by decide) (Nat.le_of_ble_eq_true rfl) ?_
  refine x_aload_n dX5_routeIn_0 rfl ?_
  refine x_iload_n dX5_routeIn_1 rfl ?_
  refine x_iconst (v := nI 2) dX5_routeIn_2 (by decide) ?_
  refine x_callS (As := [_, _]) hO dX5_routeIn_3 o_X5_busAt s_X5_busAt l_X5_67 ⟨by decide, by decide⟩ ⟨by decide, by decide⟩ rfl rfl (Nat.le_of_ble_eq_true rfl) (r_busAt hO ?_)
  dsimp only [Option.toList, List.cons_append, List.nil_append]
  refine x_row _ hO dX5_routeIn_6 hA hV rfl (by simp only [bi]; omega) ?_
  refine x_istore dX5_routeIn_7 (by decide) ?_
  refine x_aload_n dX5_routeIn_9 rfl ?_
  refine x_iload_n dX5_routeIn_10 rfl ?_
  refine x_iconst (v := nI 2) dX5_routeIn_11 (by decide) ?_
  refine x_callS (As := [_, _]) hO dX5_routeIn_12 o_X5_busAt s_X5_busAt l_X5_67 ⟨by decide, by decide⟩ ⟨by decide, by decide⟩ rfl rfl (Nat.le_of_ble_eq_true rfl) (r_busAt hO ?_)
  dsimp only [Option.toList, List.cons_append, List.nil_append]
  refine x_iload_n dX5_routeIn_15 rfl ?_
  refine x_rowS (bi b 2) n hO dX5_routeIn_16 hA hV rfl (by simp only [bi]; omega) rfl (fun f15 v15 r15 => ?_)
  refine x_aload_n dX5_routeIn_17 rfl ?_
  refine x_iload_n dX5_routeIn_18 rfl ?_
  refine x_iconst (v := nI 3) dX5_routeIn_19 (by decide) ?_
  refine x_callS (As := [_, _]) hO dX5_routeIn_20 o_X5_busAt s_X5_busAt l_X5_67 ⟨by decide, by decide⟩ ⟨by decide, by decide⟩ rfl rfl (Nat.le_of_ble_eq_true rfl) (r_busAt hO ?_)
  dsimp only [Option.toList, List.cons_append, List.nil_append]
  refine x_iload_n dX5_routeIn_23 rfl ?_
  refine x_rowS (bi b 3) l hO dX5_routeIn_24 hA v15 rfl (by simp only [bi]; omega) rfl (fun f24 v24 r24 => ?_)
  refine x_aload_n dX5_routeIn_25 rfl ?_
  refine x_iload_n dX5_routeIn_26 rfl ?_
  refine x_iconst (v := nI 4) dX5_routeIn_27 (by decide) ?_
  refine x_callS (As := [_, _]) hO dX5_routeIn_28 o_X5_busAt s_X5_busAt l_X5_67 ⟨by decide, by decide⟩ ⟨by decide, by decide⟩ rfl rfl (Nat.le_of_ble_eq_true rfl) (r_busAt hO ?_)
  dsimp only [Option.toList, List.cons_append, List.nil_append]
  refine x_iload dX5_routeIn_31 rfl ?_
  refine x_rowS (bi b 4) k hO dX5_routeIn_33 hA v24 rfl (by simp only [bi]; omega) rfl (fun f33 v33 r33 => ?_)
  refine x_iload dX5_routeIn_34 rfl ?_
  refine x_iret dX5_routeIn_36 rfl rfl ?_
  exact hq f33 v33 (fun b hb => (r33 b hb).trans ((r24 b hb).trans (r15 b hb)))
theorem r_batteryIn {G : GT} {C : AH} {Q : QT} {X : XT} {a : Nat} {ρ : Rw} {b s : Nat} (hO : GO G) (hA : RowS C a) (hV : Vr (gI C) a ρ) (hb : b < 8) (hq : ∀ f : Nat → Nat → Int32, Vr f a (btB ρ b s) → (∀ b : Nat, b ≠ a → f b = gI C b) → Q (some (.int (nI (ρ (bi b 0))))) (wI C f)) : Mt G M_X5_batteryIn [.ref a, .int (nI b), .int (nI s)] C Q X := by
  refine Mt_of (by decide) (Nat.le_of_ble_eq_true rfl) ?_
  refine x_aload_n dX5_batteryIn_0 rfl ?_
  refine x_iload_n dX5_batteryIn_1 rfl ?_
  refine x_iconst (v := nI 0) dX5_batteryIn_2 (by decide) ?_
  refine x_callS (As := [_, _]) hO dX5_batteryIn_3 o_X5_busAt s_X5_busAt l_X5_67 ⟨by decide, by decide⟩ ⟨by decide, by decide⟩ rfl rfl (Nat.le_of_ble_eq_true rfl) (r_busAt hO ?_)
  dsimp only [Option.toList, List.cons_append, List.nil_append]
  refine x_row _ hO dX5_batteryIn_6 hA hV rfl (by simp only [bi]; omega) ?_
  refine x_istore_n dX5_batteryIn_7 (by decide) ?_
  refine x_aload_n dX5_batteryIn_8 rfl ?_
  refine x_iload_n dX5_batteryIn_9 rfl ?_
  refine x_iconst (v := nI 0) dX5_batteryIn_10 (by decide) ?_
  refine x_callS (As := [_, _]) hO dX5_batteryIn_11 o_X5_busAt s_X5_busAt l_X5_67 ⟨by decide, by decide⟩ ⟨by decide, by decide⟩ rfl rfl (Nat.le_of_ble_eq_true rfl) (r_busAt hO ?_)
  dsimp only [Option.toList, List.cons_append, List.nil_append]
  refine x_iload_n dX5_batteryIn_14 rfl ?_
  refine x_rowS (bi b 0) s hO dX5_batteryIn_15 hA hV rfl (by simp only [bi]; omega) rfl (fun f14 v14 r14 => ?_)
  refine x_aload_n dX5_batteryIn_16 rfl ?_
  refine x_iload_n dX5_batteryIn_17 rfl ?_
  refine x_iconst (v := nI 1) dX5_batteryIn_18 (by decide) ?_
  refine x_callS (As := [_, _]) hO dX5_batteryIn_19 o_X5_busAt s_X5_busAt l_X5_67 ⟨by decide, by decide⟩ ⟨by decide, by decide⟩ rfl rfl (Nat.le_of_ble_eq_true rfl) (r_busAt hO ?_)
  dsimp only [Option.toList, List.cons_append, List.nil_append]
  refine x_iconst (v := nI 0) dX5_batteryIn_22 (by decide) ?_
  refine x_rowS (bi b 1) 0 hO dX5_batteryIn_23 hA v14 rfl (by simp only [bi]; omega) rfl (fun f23 v23 r23 => ?_)
  refine x_aload_n dX5_batteryIn_24 rfl ?_
  refine x_iload_n dX5_batteryIn_25 rfl ?_
  refine x_iconst (v := nI 5) dX5_batteryIn_26 (by decide) ?_
  refine x_callS (As := [_, _]) hO dX5_batteryIn_27 o_X5_busAt s_X5_busAt l_X5_67 ⟨by decide, by decide⟩ ⟨by decide, by decide⟩ rfl rfl (Nat.le_of_ble_eq_true rfl) (r_busAt hO ?_)
  dsimp only [Option.toList, List.cons_append, List.nil_append]
  refine x_iconst (v := nI 0) dX5_batteryIn_30 (by decide) ?_
  refine x_rowS (bi b 5) 0 hO dX5_batteryIn_31 hA v23 rfl (by simp only [bi]; omega) rfl (fun f31 v31 r31 => ?_)
  refine x_iload_n dX5_batteryIn_32 rfl ?_
  refine x_iret dX5_batteryIn_33 rfl rfl ?_
  exact hq f31 v31 (fun b hb => (r31 b hb).trans ((r23 b hb).trans (r14 b hb)))

theorem r_copy {G : GT} {C : AH} {Q : QT} {X : XT} {p q sp dp n N0 N1 : Nat} (hO : GO G) (hp : gK C p = 20 ∧ gN C p = N0) (hq9 : gK C q = 20 ∧ gN C q = N1) (hN0 : N0 < 2000000) (hN1 : N1 < 2000000) (hs0 : sp + n ≤ N0) (hs1 : dp + n ≤ N1) (hov : p ≠ q ∨ dp ≤ sp)
    (hq : ∀ f : Nat → Nat → Int32, (∀ k, k < n → f q (dp + k) = gI C p (sp + k)) → (∀ j, (j < dp ∨ dp + n ≤ j) → f q j = gI C q j) → (∀ b, b ≠ q → f b = gI C b) → Q none (wI C f)) : Mt G M_X5_copy [.ref p, .int (nI sp), .ref q, .int (nI dp), .int (nI n)] C Q X := by
  refine Mt_of (by decide) (Nat.le_of_ble_eq_true rfl) ?_
  have loop : ∀ (m9 i : Nat) (f : Nat → Nat → Int32), n - i = m9 → i ≤ n → (∀ k, k < i → f q (dp + k) = gI C p (sp + k)) → (∀ j, (j < dp ∨ dp + i ≤ j) → f q j = gI C q j) → (∀ b, b ≠ q → f b = gI C b) → Ex G M_X5_copy Q X (mC M_X5_copy) (mS M_X5_copy) 3 [(0, .ref p), (1, .int (nI sp)), (2, .ref q), (3, .int (nI dp)), (4, .int (nI n)), (5, .int (nI i))] [] (wI C f) := by
    intro m9
    induction m9 using Nat.strongRecOn with
    | _ m9 ih =>
      intro i f hm9 hi h1 h2 hf
      have hrd : f p (sp + i) = gI C p (sp + i) := by
        by_cases e : p = q
        · subst e
          exact h2 _ (by omega)
        · exact congrFun (hf p e) _
      refine x_iload dX5_copy_3 rfl ?_
      refine x_iload dX5_copy_5 rfl ?_
      refine x_icmp_ge (tgt := 28) dX5_copy_7 (by decide) (fun c7 => ?_) (fun c7 => ?_)
      · simp (disch := omega) only [nI_leI] at c7
        refine x_ret dX5_copy_28 rfl ?_
        have : i = n := by omega
        subst this
        exact hq f h1 h2 hf
      · simp (disch := omega) only [nI_leI] at c7
        refine x_aload_n dX5_copy_10 rfl ?_
        refine x_iload_n dX5_copy_11 rfl ?_
        refine x_iload dX5_copy_12 rfl ?_
        refine x_iadd dX5_copy_14 ?_
        refine x_aload_n dX5_copy_15 rfl ?_
        refine x_iload_n dX5_copy_16 rfl ?_
        refine x_iload dX5_copy_17 rfl ?_
        refine x_iadd dX5_copy_19 ?_
        refine x_iald (sp + i) N0 hO dX5_copy_20 hp.1 (nI_add _ _) hp.2 (by omega) (by omega) ?_
        rw [show gI (wI C f) p (sp + i) = gI C p (sp + i) from hrd]
        refine x_iast (dp + i) N1 hO dX5_copy_21 hq9.1 (nI_add _ _) hq9.2 (by omega) (by omega) ?_
        refine x_iinc (v := nI 1) dX5_copy_22 rfl (by decide) (by decide) ?_
        refine x_goto (tgt := 3) dX5_copy_25 (by decide) ?_
        try simp only [wI_wI]
        refine x_ls [(0, .ref p), (1, .int (nI sp)), (2, .ref q), (3, .int (nI dp)), (4, .int (nI n)), (5, .int (nI (i + 1)))] ⟨rfl, rfl, rfl, rfl, rfl, (by rw [← nI_add]; rfl), trivial⟩ ?_
        refine ih (m9 - 1) (by omega) (i + 1) _ (by omega) (by omega) (fun k hk => ?_) (fun j hj => ?_) (fun b hb => (up2_f hb).trans (hf b hb))
        · by_cases e : k = i
          · subst e
            exact up2_s
          · exact (up2_n (fun h => e (by omega))).trans (h1 k (by omega))
        · exact (up2_n (fun h => by omega)).trans (h2 j (by omega))
  refine x_iconst (v := nI 0) dX5_copy_0 (by decide) ?_
  refine x_istore dX5_copy_1 (by decide) ?_
  refine x_ls [(0, .ref p), (1, .int (nI sp)), (2, .ref q), (3, .int (nI dp)), (4, .int (nI n)), (5, .int (nI 0))] ⟨rfl, rfl, rfl, rfl, rfl, rfl, trivial⟩ ?_
  exact loop _ 0 (gI C) rfl (Nat.zero_le _) (fun k hk => absurd hk (Nat.not_lt_zero k)) (fun _ _ => rfl) fun _ _ => rfl

theorem new0_u : uN (uN (uN (uN (uN (uN (fun _ => 0) 7 60) 8 5) 9 2) 10 100) 11 20) 12 22 = new0 := by
  funext j
  simp only [new0, uN]
  repeat' split
  all_goals first | rfl | (exfalso; omega)
theorem r_clean {G : GT} {C : AH} {Q : QT} {X : XT} {a : Nat} {ρ : Rw} (hO : GO G) (hA : RowS C a) (hq : ∀ f : Nat → Nat → Int32, Vr f a new0 → (∀ b : Nat, b ≠ a → f b = gI C b) → Q none (wI C f)) : Mt G M_X5_clean [.ref a] C Q X := by
  refine Mt_of (by decide) (Nat.le_of_ble_eq_true rfl) ?_
  have loop : (∀ f : Nat → Nat → Int32, (∀ k, k < 74 → f a k = nI 0) → (∀ b : Nat, b ≠ a → f b = gI C b) → Ex G M_X5_clean Q X (mC M_X5_clean) (mS M_X5_clean) 18 [(0, .ref a), (1, .int (nI 74))] [] (wI C f)) → ∀ (m9 i : Nat) (f : Nat → Nat → Int32), 74 - i = m9 → i ≤ 74 → (∀ k, k < i → f a k = nI 0) → (∀ b : Nat, b ≠ a → f b = gI C b) → Ex G M_X5_clean Q X (mC M_X5_clean) (mS M_X5_clean) 2 [(0, .ref a), (1, .int (nI i))] [] (wI C f) := by
    intro kk m9
    induction m9 using Nat.strongRecOn with
    | _ m9 ih =>
      intro i f hm9 hi h1 hf
      refine x_iload_n dX5_clean_2 rfl ?_
      refine x_bipush (v := nI 74) dX5_clean_3 (by decide) ?_
      refine x_icmp_ge (tgt := 18) dX5_clean_5 (by decide) (fun c5 => ?_) (fun c5 => ?_)
      · simp (disch := omega) only [nI_leI] at c5
        have : i = 74 := by omega
        subst this
        exact kk f (fun k hk => h1 k (by omega)) hf
      · simp (disch := omega) only [nI_leI] at c5
        refine x_aload_n dX5_clean_8 rfl ?_
        refine x_iload_n dX5_clean_9 rfl ?_
        refine x_iconst (v := nI 0) dX5_clean_10 (by decide) ?_
        refine x_iast i 74 hO dX5_clean_11 hA.1 rfl hA.2 (by omega) (by decide) ?_
        refine x_iinc (v := nI 1) dX5_clean_12 rfl (by decide) (by decide) ?_
        refine x_goto (tgt := 2) dX5_clean_15 (by decide) ?_
        try simp only [wI_wI]
        refine x_ls [(0, .ref a), (1, .int (nI (i + 1)))] ⟨rfl, (by rw [← nI_add]; rfl), trivial⟩ ?_
        refine ih (m9 - 1) (by omega) (i + 1) _ (by omega) (by omega) (fun k hk => ?_) (fun b hb => (up2_f hb).trans (hf b hb))
        by_cases e : k = i
        · subst e
          exact up2_s
        · exact (up2_n (fun h => e h.2)).trans (h1 k (by omega))
  have fin : ∀ f : Nat → Nat → Int32, (∀ k, k < 74 → f a k = nI 0) → (∀ b : Nat, b ≠ a → f b = gI C b) → Ex G M_X5_clean Q X (mC M_X5_clean) (mS M_X5_clean) 18 [(0, .ref a), (1, .int (nI 74))] [] (wI C f) := by
      intro f h1 hf
      have hz : Vr f a (fun _ => 0) := fun k hk => h1 k hk
      refine x_aload_n dX5_clean_18 rfl ?_
      refine x_bipush (v := nI 7) dX5_clean_19 (by decide) ?_
      refine x_bipush (v := nI 60) dX5_clean_21 (by decide) ?_
      refine x_rowS 7 60 hO dX5_clean_23 hA hz rfl (by decide) rfl (fun f23 v23 r23 => ?_)
      refine x_aload_n dX5_clean_24 rfl ?_
      refine x_bipush (v := nI 8) dX5_clean_25 (by decide) ?_
      refine x_iconst (v := nI 5) dX5_clean_27 (by decide) ?_
      refine x_rowS 8 5 hO dX5_clean_28 hA v23 rfl (by decide) rfl (fun f28 v28 r28 => ?_)
      refine x_aload_n dX5_clean_29 rfl ?_
      refine x_bipush (v := nI 9) dX5_clean_30 (by decide) ?_
      refine x_iconst (v := nI 2) dX5_clean_32 (by decide) ?_
      refine x_rowS 9 2 hO dX5_clean_33 hA v28 rfl (by decide) rfl (fun f33 v33 r33 => ?_)
      refine x_aload_n dX5_clean_34 rfl ?_
      refine x_bipush (v := nI 10) dX5_clean_35 (by decide) ?_
      refine x_bipush (v := nI 100) dX5_clean_37 (by decide) ?_
      refine x_rowS 10 100 hO dX5_clean_39 hA v33 rfl (by decide) rfl (fun f39 v39 r39 => ?_)
      refine x_aload_n dX5_clean_40 rfl ?_
      refine x_bipush (v := nI 11) dX5_clean_41 (by decide) ?_
      refine x_bipush (v := nI 20) dX5_clean_43 (by decide) ?_
      refine x_rowS 11 20 hO dX5_clean_45 hA v39 rfl (by decide) rfl (fun f45 v45 r45 => ?_)
      refine x_aload_n dX5_clean_46 rfl ?_
      refine x_bipush (v := nI 12) dX5_clean_47 (by decide) ?_
      refine x_bipush (v := nI 22) dX5_clean_49 (by decide) ?_
      refine x_rowS 12 22 hO dX5_clean_51 hA v45 rfl (by decide) rfl (fun f51 v51 r51 => ?_)
      refine x_ret dX5_clean_52 rfl ?_
      rw [new0_u] at v51
      exact hq f51 v51 (fun b hb => (r51 b hb).trans ((r45 b hb).trans ((r39 b hb).trans ((r33 b hb).trans ((r28 b hb).trans ((r23 b hb).trans (hf b hb)))))))
  refine x_iconst (v := nI 0) dX5_clean_0 (by decide) ?_
  refine x_istore_n dX5_clean_1 (by decide) ?_
  refine x_ls [(0, .ref a), (1, .int (nI 0))] ⟨rfl, rfl, trivial⟩ ?_
  exact loop fin _ 0 (gI C) rfl (Nat.zero_le _) (fun k hk => absurd hk (Nat.not_lt_zero k)) fun _ _ => rfl
theorem r_thrown {G : GT} {C : AH} {Q : QT} {X : XT} {m : Nat} (hO : GO G) (hM : MdS C m) (hq : Q (some (.int (gI C m 0))) C) : Mt G M_X5_thrown [.ref m] C Q X := by
  refine Mt_of (by decide) (Nat.le_of_ble_eq_true rfl) ?_
  obtain ⟨hm0, ⟨g1, g6, g7, g8, g9, g10, g12, g13, g14, g15, g16, g17, g18⟩, k1, k2, k3, k4, k5, k6, k7, k8, k9, k10, k11, k12, k13, hmz⟩ := id hM
  refine x_aload_n dX5_thrown_0 rfl ?_
  refine x_get 7 hO dX5_thrown_1 f_X5_54 (by first | (simp only [gK_wI]; assumption) | assumption) ⟨by decide, by decide⟩ (v := .int _) rfl ?_
  refine x_iret dX5_thrown_4 rfl rfl ?_
  exact hq
/-- the call is refused, or not *)-/
theorem r_ref {G : GT} {C : AH} {Q : QT} {X : XT} {m t : Nat} (hO : GO G) (hM : MdS C m) (ht : t < 5) (hq : ∀ r : Int32, r = (if 0 < t then 1 else 0) → Q (some (.int r)) (wI C (up2 (gI C) m 0 (nI t)))) : Mt G M_X5_refused [.ref m, .int (nI t)] C Q X := by
  refine Mt_of (by decide) (Nat.le_of_ble_eq_true rfl) ?_
  obtain ⟨hm0, ⟨g1, g6, g7, g8, g9, g10, g12, g13, g14, g15, g16, g17, g18⟩, k1, k2, k3, k4, k5, k6, k7, k8, k9, k10, k11, k12, k13, hmz⟩ := id hM
  refine x_aload_n dX5_refused_0 rfl ?_
  refine x_iload_n dX5_refused_1 rfl ?_
  refine x_putI 7 hO dX5_refused_2 f_X5_54 (fw_7_0 _) (by first | (simp only [gK_wI]; assumption) | assumption) ⟨by decide, by decide⟩ rfl rfl ?_
  refine x_iload_n dX5_refused_5 rfl ?_
  refine x_if_le (tgt := 13) dX5_refused_6 (by decide) (fun c6 => ?_) (fun c6 => ?_)
  · simp (disch := omega) only [nI_leI0] at c6
    refine x_iconst (v := nI 0) dX5_refused_13 (by decide) ?_
    refine x_iret dX5_refused_14 rfl (by first | rfl | assumption) ?_
    exact hq _ (by first | exact (if_pos (by omega)).symm | exact (if_neg (by omega)).symm)
  · simp (disch := omega) only [nI_leI0] at c6
    refine x_iconst (v := nI 1) dX5_refused_9 (by decide) ?_
    refine x_goto (tgt := 14) dX5_refused_10 (by decide) ?_
    refine x_iret dX5_refused_14 rfl (by first | rfl | assumption) ?_
    exact hq _ (by first | exact (if_pos (by omega)).symm | exact (if_neg (by omega)).symm)

