/-! Bus *)-/
theorem s_X0_isLow {G : GT} {C : AH} {Q : QT} {X : XT} {h : Nat} (hO : GO G) (hK : gK C h = 2) (hq : ∀ r : Int32, r = (if gI C h 6 = 0 ∧ gI C h 1 < gI C h 2 then 1 else 0) → Q (some (.int r)) C) : Mt G M_X0_isLow [.ref h] C Q X := by
  refine Mt_of (by decide) (Nat.le_of_ble_eq_true rfl) ?_
  refine x_aload_n dX0_isLow_0 rfl ?_
  refine x_getZ 2 hO dX0_isLow_1 f_X0_36 (by assumption) ⟨by decide, by decide⟩ rfl rfl (fun z1 => ?_)
  refine x_if_ne (tgt := 22) dX0_isLow_4 (by decide) (fun c4 => ?_) (fun c4 => ?_)
  · refine x_iconst (v := nI 0) dX0_isLow_22 (by decide) ?_
    refine x_iret dX0_isLow_23 rfl (by first | rfl | assumption) ?_
    exact hq _ (by simp_all [nI_0, nI1, ← Int32.not_lt])
  · refine x_aload_n dX0_isLow_7 rfl ?_
    refine x_get 2 hO dX0_isLow_8 f_X0_21 (by assumption) ⟨by decide, by decide⟩ (v := .int _) rfl ?_
    refine x_aload_n dX0_isLow_11 rfl ?_
    refine x_get 2 hO dX0_isLow_12 f_X0_24 (by assumption) ⟨by decide, by decide⟩ (v := .int _) rfl ?_
    refine x_icmp_ge (tgt := 22) dX0_isLow_15 (by decide) (fun c15 => ?_) (fun c15 => ?_)
    · refine x_iconst (v := nI 0) dX0_isLow_22 (by decide) ?_
      refine x_iret dX0_isLow_23 rfl (by first | rfl | assumption) ?_
      exact hq _ (by simp_all [nI_0, nI1, ← Int32.not_lt])
    · refine x_iconst (v := nI 1) dX0_isLow_18 (by decide) ?_
      refine x_goto (tgt := 23) dX0_isLow_19 (by decide) ?_
      refine x_iret dX0_isLow_23 rfl (by first | rfl | assumption) ?_
      exact hq _ (by simp_all [nI_0, nI1, ← Int32.not_lt])
theorem s_X0_giveRoute {G : GT} {C : AH} {Q : QT} {X : XT} {h : Nat} {a b c : Int32} (hO : GO G) (hK : gK C h = 2) (hq : Q none (wI C (up2 (up2 (up2 (gI C) h 2 a) h 3 b) h 4 c))) : Mt G M_X0_giveRoute [.ref h, .int a, .int b, .int c] C Q X := by
  refine Mt_of (by decide) (Nat.le_of_ble_eq_true rfl) ?_
  refine x_aload_n dX0_giveRoute_0 rfl ?_
  refine x_iload_n dX0_giveRoute_1 rfl ?_
  refine x_putI 2 hO dX0_giveRoute_2 f_X0_24 (fw_2_2 _) (by assumption) ⟨by decide, by decide⟩ rfl rfl ?_
  refine x_aload_n dX0_giveRoute_5 rfl ?_
  refine x_iload_n dX0_giveRoute_6 rfl ?_
  refine x_putI 2 hO dX0_giveRoute_7 f_X0_27 (fw_2_3 _) (by assumption) ⟨by decide, by decide⟩ rfl rfl ?_
  refine x_aload_n dX0_giveRoute_10 rfl ?_
  refine x_iload_n dX0_giveRoute_11 rfl ?_
  refine x_putI 2 hO dX0_giveRoute_12 f_X0_30 (fw_2_4 _) (by assumption) ⟨by decide, by decide⟩ rfl rfl ?_
  refine x_ret dX0_giveRoute_15 rfl ?_
  exact hq
theorem s_X0_giveBattery {G : GT} {C : AH} {Q : QT} {X : XT} {h : Nat} {a : Int32} (hO : GO G) (hK : gK C h = 2) (hq : Q none (wI C (up2 (up2 (up2 (gI C) h 0 a) h 1 0) h 5 0))) : Mt G M_X0_giveBattery [.ref h, .int a] C Q X := by
  refine Mt_of (by decide) (Nat.le_of_ble_eq_true rfl) ?_
  refine x_aload_n dX0_giveBattery_0 rfl ?_
  refine x_iload_n dX0_giveBattery_1 rfl ?_
  refine x_putI 2 hO dX0_giveBattery_2 f_X0_18 (fw_2_0 _) (by assumption) ⟨by decide, by decide⟩ rfl rfl ?_
  refine x_aload_n dX0_giveBattery_5 rfl ?_
  refine x_iconst (v := nI 0) dX0_giveBattery_6 (by decide) ?_
  refine x_putI 2 hO dX0_giveBattery_7 f_X0_21 (fw_2_1 _) (by assumption) ⟨by decide, by decide⟩ rfl rfl ?_
  refine x_aload_n dX0_giveBattery_10 rfl ?_
  refine x_iconst (v := nI 0) dX0_giveBattery_11 (by decide) ?_
  refine x_putI 2 hO dX0_giveBattery_12 f_X0_33 (fw_2_5 _) (by assumption) ⟨by decide, by decide⟩ rfl rfl ?_
  refine x_ret dX0_giveBattery_15 rfl ?_
  exact hq
theorem s_X0_becomeLike {G : GT} {C : AH} {Q : QT} {X : XT} {h o : Nat} (hO : GO G) (hK : gK C h = 2) (hK2 : gK C o = 2) (hne : h ≠ o) (hq : Q none (wI C (fun b j => if b = h ∧ j < 7 then gI C o j else gI C b j))) : Mt G M_X0_becomeLike [.ref h, .ref o] C Q X := by
  refine Mt_of (by decide) (Nat.le_of_ble_eq_true rfl) ?_
  refine x_aload_n dX0_becomeLike_0 rfl ?_
  refine x_aload_n dX0_becomeLike_1 rfl ?_
  refine x_get 2 hO dX0_becomeLike_2 f_X0_18 (by assumption) ⟨by decide, by decide⟩ (v := .int _) rfl ?_
  refine x_putI 2 hO dX0_becomeLike_5 f_X0_18 (fw_2_0 _) (by assumption) ⟨by decide, by decide⟩ rfl rfl ?_
  refine x_aload_n dX0_becomeLike_8 rfl ?_
  refine x_aload_n dX0_becomeLike_9 rfl ?_
  refine x_get 2 hO dX0_becomeLike_10 f_X0_21 (by assumption) ⟨by decide, by decide⟩ (v := .int _) rfl ?_
  refine x_putI 2 hO dX0_becomeLike_13 f_X0_21 (fw_2_1 _) (by assumption) ⟨by decide, by decide⟩ rfl rfl ?_
  refine x_aload_n dX0_becomeLike_16 rfl ?_
  refine x_aload_n dX0_becomeLike_17 rfl ?_
  refine x_get 2 hO dX0_becomeLike_18 f_X0_24 (by assumption) ⟨by decide, by decide⟩ (v := .int _) rfl ?_
  refine x_putI 2 hO dX0_becomeLike_21 f_X0_24 (fw_2_2 _) (by assumption) ⟨by decide, by decide⟩ rfl rfl ?_
  refine x_aload_n dX0_becomeLike_24 rfl ?_
  refine x_aload_n dX0_becomeLike_25 rfl ?_
  refine x_get 2 hO dX0_becomeLike_26 f_X0_27 (by assumption) ⟨by decide, by decide⟩ (v := .int _) rfl ?_
  refine x_putI 2 hO dX0_becomeLike_29 f_X0_27 (fw_2_3 _) (by assumption) ⟨by decide, by decide⟩ rfl rfl ?_
  refine x_aload_n dX0_becomeLike_32 rfl ?_
  refine x_aload_n dX0_becomeLike_33 rfl ?_
  refine x_get 2 hO dX0_becomeLike_34 f_X0_30 (by assumption) ⟨by decide, by decide⟩ (v := .int _) rfl ?_
  refine x_putI 2 hO dX0_becomeLike_37 f_X0_30 (fw_2_4 _) (by assumption) ⟨by decide, by decide⟩ rfl rfl ?_
  refine x_aload_n dX0_becomeLike_40 rfl ?_
  refine x_aload_n dX0_becomeLike_41 rfl ?_
  refine x_get 2 hO dX0_becomeLike_42 f_X0_33 (by assumption) ⟨by decide, by decide⟩ (v := .int _) rfl ?_
  refine x_putI 2 hO dX0_becomeLike_45 f_X0_33 (fw_2_5 _) (by assumption) ⟨by decide, by decide⟩ rfl rfl ?_
  refine x_aload_n dX0_becomeLike_48 rfl ?_
  refine x_aload_n dX0_becomeLike_49 rfl ?_
  refine x_getZ 2 hO dX0_becomeLike_50 f_X0_36 (by assumption) ⟨by decide, by decide⟩ rfl rfl (fun z50 => ?_)
  refine x_putZ 2 hO dX0_becomeLike_53 f_X0_36 (fw_2_6 _) (by assumption) ⟨by decide, by decide⟩ rfl (by first | exact Or.inl rfl | exact Or.inr rfl | assumption) ?_
  refine x_ret dX0_becomeLike_56 rfl ?_
  refine Eq.mp (congrArg (Q none) ?_) hq
  simp only [wI_wI, gI_wI]
  refine congrArg (wI C) (funext fun b => funext fun j => ?_)
  by_cases hb : b = h
  · subst hb
    match j with
    | 0 | 1 | 2 | 3 | 4 | 5 | 6 => simp [up2, Ne.symm hne]
    | j + 7 => simp [up2, show ¬ (j + 7 < 7) by omega]
  · simp [up2, hb]
theorem s_X0_wearOfRoute {G : GT} {C : AH} {Q : QT} {X : XT} {h : Nat} (hO : GO G) (hK : gK C h = 2) (hq : ∀ r : Int32, r = (if nI 80 * gI C h 0 ≤ nI 100 * gI C h 2 then 3 else if nI 50 * gI C h 0 ≤ nI 100 * gI C h 2 then 2 else 1) → Q (some (.int r)) C) : Mt G M_X0_wearOfRoute [.ref h] C Q X := by
  refine Mt_of (by decide) (Nat.le_of_ble_eq_true rfl) ?_
  refine x_bipush (v := nI 100) dX0_wearOfRoute_0 (by decide) ?_
  refine x_aload_n dX0_wearOfRoute_2 rfl ?_
  refine x_get 2 hO dX0_wearOfRoute_3 f_X0_24 (by assumption) ⟨by decide, by decide⟩ (v := .int _) rfl ?_
  refine x_imul dX0_wearOfRoute_6 ?_
  refine x_bipush (v := nI 80) dX0_wearOfRoute_7 (by decide) ?_
  refine x_aload_n dX0_wearOfRoute_9 rfl ?_
  refine x_get 2 hO dX0_wearOfRoute_10 f_X0_18 (by assumption) ⟨by decide, by decide⟩ (v := .int _) rfl ?_
  refine x_imul dX0_wearOfRoute_13 ?_
  refine x_icmp_lt (tgt := 19) dX0_wearOfRoute_14 (by decide) (fun c14 => ?_) (fun c14 => ?_)
  · refine x_bipush (v := nI 100) dX0_wearOfRoute_19 (by decide) ?_
    refine x_aload_n dX0_wearOfRoute_21 rfl ?_
    refine x_get 2 hO dX0_wearOfRoute_22 f_X0_24 (by assumption) ⟨by decide, by decide⟩ (v := .int _) rfl ?_
    refine x_imul dX0_wearOfRoute_25 ?_
    refine x_bipush (v := nI 50) dX0_wearOfRoute_26 (by decide) ?_
    refine x_aload_n dX0_wearOfRoute_28 rfl ?_
    refine x_get 2 hO dX0_wearOfRoute_29 f_X0_18 (by assumption) ⟨by decide, by decide⟩ (v := .int _) rfl ?_
    refine x_imul dX0_wearOfRoute_32 ?_
    refine x_icmp_lt (tgt := 40) dX0_wearOfRoute_33 (by decide) (fun c33 => ?_) (fun c33 => ?_)
    · refine x_iconst (v := nI 1) dX0_wearOfRoute_40 (by decide) ?_
      refine x_iret dX0_wearOfRoute_41 rfl rfl ?_
      exact hq _ (by simp_all [nI1, nI2, show nI 3 = 3 from rfl, ← Int32.not_lt])
    · refine x_iconst (v := nI 2) dX0_wearOfRoute_36 (by decide) ?_
      refine x_goto (tgt := 41) dX0_wearOfRoute_37 (by decide) ?_
      refine x_iret dX0_wearOfRoute_41 rfl rfl ?_
      exact hq _ (by simp_all [nI1, nI2, show nI 3 = 3 from rfl, ← Int32.not_lt])
  · refine x_iconst (v := nI 3) dX0_wearOfRoute_17 (by decide) ?_
    refine x_iret dX0_wearOfRoute_18 rfl rfl ?_
    exact hq _ (by simp_all [nI1, nI2, show nI 3 = 3 from rfl, ← Int32.not_lt])
theorem s_X0_goOut {G : GT} {C : AH} {Q : QT} {X : XT} {h : Nat} {a b : Int32} (hO : GO G) (hK : gK C h = 2)
    (hq : ∀ f : Nat → Nat → Int32, (∀ q j : Nat, q ≠ h → f q j = gI C q j) → (∀ j : Nat, j = 2 ∨ j = 3 ∨ j = 4 ∨ 7 ≤ j → f h j = gI C h j) → f h 6 = 1 →
      (¬ b ≤ gI C h 5 + a → f h 0 = gI C h 0 ∧ f h 1 = gI C h 1 - gI C h 2 ∧ f h 5 = gI C h 5 + a) →
      (b ≤ gI C h 5 + a → f h 0 = (if nI 10 < gI C h 0 - nI 1 then gI C h 0 - nI 1 else nI 10) ∧ f h 1 = (if f h 0 < gI C h 1 - gI C h 2 then f h 0 else gI C h 1 - gI C h 2) ∧ f h 5 = gI C h 5 + a - b) → Q none (wI C f)) : Mt G M_X0_goOut [.ref h, .int a, .int b] C Q X := by
  refine Mt_of (by decide) (Nat.le_of_ble_eq_true rfl) ?_
  refine x_aload_n dX0_goOut_0 rfl ?_
  refine x_iconst (v := nI 1) dX0_goOut_1 (by decide) ?_
  refine x_putZ 2 hO dX0_goOut_2 f_X0_36 (fw_2_6 _) (by assumption) ⟨by decide, by decide⟩ rfl (by first | exact Or.inl rfl | exact Or.inr rfl | assumption) ?_
  refine x_aload_n dX0_goOut_5 rfl ?_
  refine x_dup dX0_goOut_6 rfl ?_
  refine x_get 2 hO dX0_goOut_7 f_X0_21 (by assumption) ⟨by decide, by decide⟩ (v := .int _) rfl ?_
  refine x_aload_n dX0_goOut_10 rfl ?_
  refine x_get 2 hO dX0_goOut_11 f_X0_24 (by assumption) ⟨by decide, by decide⟩ (v := .int _) rfl ?_
  refine x_isub dX0_goOut_14 ?_
  refine x_putI 2 hO dX0_goOut_15 f_X0_21 (fw_2_1 _) (by assumption) ⟨by decide, by decide⟩ rfl rfl ?_
  refine x_aload_n dX0_goOut_18 rfl ?_
  refine x_dup dX0_goOut_19 rfl ?_
  refine x_get 2 hO dX0_goOut_20 f_X0_33 (by assumption) ⟨by decide, by decide⟩ (v := .int _) rfl ?_
  refine x_iload_n dX0_goOut_23 rfl ?_
  refine x_iadd dX0_goOut_24 ?_
  refine x_putI 2 hO dX0_goOut_25 f_X0_33 (fw_2_5 _) (by assumption) ⟨by decide, by decide⟩ rfl rfl ?_
  refine x_aload_n dX0_goOut_28 rfl ?_
  refine x_get 2 hO dX0_goOut_29 f_X0_33 (by assumption) ⟨by decide, by decide⟩ (v := .int _) rfl ?_
  refine x_iload_n dX0_goOut_32 rfl ?_
  refine x_icmp_lt (tgt := 76) dX0_goOut_33 (by decide) (fun c33 => ?_) (fun c33 => ?_)
  · refine x_ret dX0_goOut_76 rfl ?_
    simp only [wI_wI, gI_wI]
    refine hq _ ?_ ?_ ?_ ?_ ?_
    · intro q j hqj
      simp [up2, hqj]
    · intro j hj
      have : j ≠ 0 ∧ j ≠ 1 ∧ j ≠ 5 ∧ j ≠ 6 := by omega
      simp [up2, this]
    · simp [up2, nI1]
    · intro c9
      simp_all [up2, gI_wI, ← Int32.not_lt]
    · intro c9
      simp_all [up2, gI_wI, ← Int32.not_lt]
  · refine x_aload_n dX0_goOut_36 rfl ?_
    refine x_dup dX0_goOut_37 rfl ?_
    refine x_get 2 hO dX0_goOut_38 f_X0_33 (by assumption) ⟨by decide, by decide⟩ (v := .int _) rfl ?_
    refine x_iload_n dX0_goOut_41 rfl ?_
    refine x_isub dX0_goOut_42 ?_
    refine x_putI 2 hO dX0_goOut_43 f_X0_33 (fw_2_5 _) (by assumption) ⟨by decide, by decide⟩ rfl rfl ?_
    refine x_aload_n dX0_goOut_46 rfl ?_
    refine x_bipush (v := nI 10) dX0_goOut_47 (by decide) ?_
    refine x_aload_n dX0_goOut_49 rfl ?_
    refine x_get 2 hO dX0_goOut_50 f_X0_18 (by assumption) ⟨by decide, by decide⟩ (v := .int _) rfl ?_
    refine x_iconst (v := nI 1) dX0_goOut_53 (by decide) ?_
    refine x_isub dX0_goOut_54 ?_
    refine x_mmax hO dX0_goOut_55 (by rw [← max_name]; exact l_X0_51) max_s math_i max_c ⟨by decide, by decide⟩ (Nat.le_of_ble_eq_true rfl) ?_
    refine x_putI 2 hO dX0_goOut_58 f_X0_18 (fw_2_0 _) (by assumption) ⟨by decide, by decide⟩ rfl rfl ?_
    refine x_aload_n dX0_goOut_61 rfl ?_
    refine x_aload_n dX0_goOut_62 rfl ?_
    refine x_get 2 hO dX0_goOut_63 f_X0_21 (by assumption) ⟨by decide, by decide⟩ (v := .int _) rfl ?_
    refine x_aload_n dX0_goOut_66 rfl ?_
    refine x_get 2 hO dX0_goOut_67 f_X0_18 (by assumption) ⟨by decide, by decide⟩ (v := .int _) rfl ?_
    refine x_mmin hO dX0_goOut_70 (by rw [← min_name]; exact l_X0_57) min_s math_i min_c ⟨by decide, by decide⟩ (Nat.le_of_ble_eq_true rfl) ?_
    refine x_putI 2 hO dX0_goOut_73 f_X0_21 (fw_2_1 _) (by assumption) ⟨by decide, by decide⟩ rfl rfl ?_
    refine x_ret dX0_goOut_76 rfl ?_
    simp only [wI_wI, gI_wI]
    refine hq _ ?_ ?_ ?_ ?_ ?_
    · intro q j hqj
      simp [up2, hqj]
    · intro j hj
      have : j ≠ 0 ∧ j ≠ 1 ∧ j ≠ 5 ∧ j ≠ 6 := by omega
      simp [up2, this]
    · simp [up2, nI1]
    · intro c9
      simp_all [up2, gI_wI, ← Int32.not_lt]
    · intro c9
      simp_all [up2, gI_wI, ← Int32.not_lt]
