/-! a depot object at d: its shape, what it says *)-/
def SkD (C : AH) (d : Nat) : Prop := gK C d = 3 ∧ gR C d 0 = some (d + 1) ∧ gR C d 1 = some (d + 2) ∧ gR C d 2 = some (d + 3) ∧ gR C d 3 = some (d + 4) ∧ gK C (d + 1) = 25 ∧ gN C (d + 1) = 8 ∧ gK C (d + 2) = 20 ∧ gN C (d + 2) = 5 ∧ gK C (d + 3) = 20 ∧ gN C (d + 3) = 5 ∧ gK C (d + 4) = 20 ∧ gN C (d + 4) = 6 ∧ ∀ b, b < 8 → gR C (d + 1) b = some (d + 5 + b) ∧ gK C (d + 5 + b) = 2
def VaD (f : Nat → Nat → Int32) (d : Nat) (ρ : Rw) : Prop := f d 4 = nI (ρ 1) ∧ f d 5 = nI (ρ 2) ∧ f d 6 = nI (ρ 0) ∧ f d 7 = nI (ρ 3) ∧ f d 8 = nI (ρ 4) ∧ f d 9 = nI (ρ 5) ∧ f d 10 = nI (ρ 6) ∧ (∀ k, k < 6 → f (d + 4) k = nI (ρ (7 + k))) ∧ (∀ b, b < ρ 1 → ∀ w, w < 7 → f (d + 5 + b) w = nI (ρ (bi b w))) ∧ ∀ c, c < ρ 2 → f (d + 2) c = nI (ρ (69 + c)) ∧ f (d + 3) c = nI ((ordL ρ).getD c 0)
theorem SkD_f {C : AH} {d : Nat} {ρ : Rw} (hS : SkD C d) (hV : VaD (gI C) d ρ) : fV C 3 d 0 = .ref (d + 1) ∧ fV C 3 d 1 = .ref (d + 2) ∧ fV C 3 d 2 = .ref (d + 3) ∧ fV C 3 d 3 = .ref (d + 4) ∧ fV C 3 d 4 = .int (nI (ρ 1)) ∧ fV C 3 d 5 = .int (nI (ρ 2)) ∧ fV C 3 d 6 = .int (nI (ρ 0)) ∧ fV C 3 d 7 = .int (nI (ρ 3)) ∧ fV C 3 d 8 = .int (nI (ρ 4)) ∧ fV C 3 d 9 = .int (nI (ρ 5)) ∧ fV C 3 d 10 = .int (nI (ρ 6)) :=
  ⟨congrArg va_rf hS.2.1, congrArg va_rf hS.2.2.1, congrArg va_rf hS.2.2.2.1, congrArg va_rf hS.2.2.2.2.1, congrArg Value.int hV.1, congrArg Value.int hV.2.1, congrArg Value.int hV.2.2.1, congrArg Value.int hV.2.2.2.1, congrArg Value.int hV.2.2.2.2.1, congrArg Value.int hV.2.2.2.2.2.1, congrArg Value.int hV.2.2.2.2.2.2.1⟩
theorem ix_of {b : Int32} {n : Nat} (hn : n < 2147483648) : (nI 0 ≤ b ∧ b ≤ nI n - nI 1) ↔ ∃ j, j < n ∧ b = nI j := by
  constructor
  · rintro ⟨h1, h2⟩
    cases n with
    | zero =>
      have e : nI 0 - nI 1 = -1 := by decide
      rw [e] at h2
      have := Int32.le_trans h1 h2
      exact absurd this (by decide)
    | succ m =>
      have e : nI (m + 1) - nI 1 = nI m := nI_pred m
      rw [e] at h2
      obtain ⟨j, hj, rfl⟩ := nI_of2 (M := nI m) (nI_toInt (by omega)) (Int32.not_lt.mpr (nI_0 ▸ h1)) h2
      exact ⟨j, by omega, rfl⟩
  · rintro ⟨j, hj, rfl⟩
    cases n with
    | zero => omega
    | succ m =>
      have e : nI (m + 1) - nI 1 = nI m := nI_pred m
      rw [e]
      exact ⟨nI_le (by omega) (by omega), nI_le (by omega) (by omega)⟩
theorem nI_z {a : Nat} (h : a < 2 ^ 31) : nI a = 0 ↔ a = 0 := by
  rw [← nI_0, nI_eq h (by decide)]
theorem tI (a : Nat) (h : a < 2147483648) : (nI a).toInt = (a : Int) := nI_toInt h
/-- the rest by 24 of a difference -/
theorem fm24 {a b : Nat} (ha : a < 1000000) (hb : b < 24) : (nI a - nI b).toInt = (a : Int) - b := pk_sub_toInt (by omega) (by omega)
theorem tm24 (z : Int) : (0 ≤ z ∧ z.tdiv 24 = z / 24 ∧ z.tmod 24 = z % 24) ∨ (z < 0 ∧ z.tdiv 24 = -((-z) / 24) ∧ z.tmod 24 = -((-z) % 24)) := by
  by_cases h : 0 ≤ z
  · exact Or.inl ⟨h, Int.tdiv_eq_ediv_of_nonneg h, Int.tmod_eq_emod_of_nonneg h⟩
  · refine Or.inr ⟨by omega, ?_, ?_⟩
    · rw [← Int.tdiv_eq_ediv_of_nonneg (show 0 ≤ -z by omega), Int.neg_tdiv, Int.neg_neg]
    · rw [← Int.tmod_eq_emod_of_nonneg (show 0 ≤ -z by omega), Int.neg_tmod, Int.neg_neg]
theorem fm_rem {x : Int32} {z : Int} (hx : x.toInt = z) (h1 : -1000000 < z) (h2 : z < 1000000) : (x - x / nI 24 * nI 24).toInt = z.tmod 24 := by
  have e24 : (nI 24).toInt = 24 := by decide
  have ht := tm24 z
  have ed : (x / nI 24).toInt = z.tdiv 24 := by
    rw [Int32.toInt_div, hx, e24]
    apply Int.bmod_eq_of_le <;> omega
  have em : (x / nI 24 * nI 24).toInt = z.tdiv 24 * 24 := by
    rw [Int32.toInt_mul, ed, e24]
    apply Int.bmod_eq_of_le <;> omega
  rw [Int32.toInt_sub, hx, em]
  have : z - z.tdiv 24 * 24 = z.tmod 24 := by omega
  rw [this]
  apply Int.bmod_eq_of_le <;> omega

theorem s_isFullOfBuses {G : GT} {C : AH} {Q : QT} {X : XT} {d : Nat} {ρ : Rw} (hO : GO G) (hS : SkD C d) (hV : VaD (gI C) d ρ) (hW : Wf ρ) (hq : ∀ r : Int32, r = (if 8 ≤ ρ 1 then 1 else 0) → Q (some (.int r)) C) : Mt G M_X1_isFullOfBuses [.ref d] C Q X := by
  refine Mt_of (by decide) (Nat.le_of_ble_eq_true rfl) ?_
  obtain ⟨s0, s1, s2, s3, v4, v5, v6, v7, v8, v9, v10⟩ := SkD_f hS hV
  obtain ⟨hK, -, -, -, -, k1, n1, k2, n2, k3, n3, k4, n4, hbus⟩ := id hS
  obtain ⟨w1, w2, w7, w8, w9, w10, w11, w11', w12, wB, wP⟩ := id hW
  refine x_aload_n dX1_isFullOfBuses_0 rfl ?_
  refine x_get 3 hO dX1_isFullOfBuses_1 f_X1_37 (by assumption) ⟨by decide, by decide⟩ (v := .int (nI (ρ 1))) v4 ?_
  refine x_bipush (v := nI 8) dX1_isFullOfBuses_4 (by decide) ?_
  refine x_icmp_lt (tgt := 13) dX1_isFullOfBuses_6 (by decide) (fun c6 => ?_) (fun c6 => ?_)
  · refine x_iconst (v := nI 0) dX1_isFullOfBuses_13 (by decide) ?_
    refine x_iret dX1_isFullOfBuses_14 rfl (by first | rfl | assumption) ?_
    try simp (disch := omega) only [nI_leI, nI_ltI, nI_eq, nI_z] at *
    exact hq _ (by first | (rw [if_pos (by omega)]; rfl) | (rw [if_neg (by omega)]; rfl))
  · refine x_iconst (v := nI 1) dX1_isFullOfBuses_9 (by decide) ?_
    refine x_goto (tgt := 14) dX1_isFullOfBuses_10 (by decide) ?_
    refine x_iret dX1_isFullOfBuses_14 rfl (by first | rfl | assumption) ?_
    try simp (disch := omega) only [nI_leI, nI_ltI, nI_eq, nI_z] at *
    exact hq _ (by first | (rw [if_pos (by omega)]; rfl) | (rw [if_neg (by omega)]; rfl))
theorem s_isFullOfChargers {G : GT} {C : AH} {Q : QT} {X : XT} {d : Nat} {ρ : Rw} (hO : GO G) (hS : SkD C d) (hV : VaD (gI C) d ρ) (hW : Wf ρ) (hq : ∀ r : Int32, r = (if 5 ≤ ρ 2 then 1 else 0) → Q (some (.int r)) C) : Mt G M_X1_isFullOfChargers [.ref d] C Q X := by
  refine Mt_of (by decide) (Nat.le_of_ble_eq_true rfl) ?_
  obtain ⟨s0, s1, s2, s3, v4, v5, v6, v7, v8, v9, v10⟩ := SkD_f hS hV
  obtain ⟨hK, -, -, -, -, k1, n1, k2, n2, k3, n3, k4, n4, hbus⟩ := id hS
  obtain ⟨w1, w2, w7, w8, w9, w10, w11, w11', w12, wB, wP⟩ := id hW
  refine x_aload_n dX1_isFullOfChargers_0 rfl ?_
  refine x_get 3 hO dX1_isFullOfChargers_1 f_X1_41 (by assumption) ⟨by decide, by decide⟩ (v := .int (nI (ρ 2))) v5 ?_
  refine x_iconst (v := nI 5) dX1_isFullOfChargers_4 (by decide) ?_
  refine x_icmp_lt (tgt := 12) dX1_isFullOfChargers_5 (by decide) (fun c5 => ?_) (fun c5 => ?_)
  · refine x_iconst (v := nI 0) dX1_isFullOfChargers_12 (by decide) ?_
    refine x_iret dX1_isFullOfChargers_13 rfl (by first | rfl | assumption) ?_
    try simp (disch := omega) only [nI_leI, nI_ltI, nI_eq, nI_z] at *
    exact hq _ (by first | (rw [if_pos (by omega)]; rfl) | (rw [if_neg (by omega)]; rfl))
  · refine x_iconst (v := nI 1) dX1_isFullOfChargers_8 (by decide) ?_
    refine x_goto (tgt := 13) dX1_isFullOfChargers_9 (by decide) ?_
    refine x_iret dX1_isFullOfChargers_13 rfl (by first | rfl | assumption) ?_
    try simp (disch := omega) only [nI_leI, nI_ltI, nI_eq, nI_z] at *
    exact hq _ (by first | (rw [if_pos (by omega)]; rfl) | (rw [if_neg (by omega)]; rfl))
theorem s_hourOfDay {G : GT} {C : AH} {Q : QT} {X : XT} {d : Nat} {ρ : Rw} (hO : GO G) (hS : SkD C d) (hV : VaD (gI C) d ρ) (hW : Wf ρ) (hb : ρ 0 < 1000000) (hq : Q (some (.int (nI (ρ 0 % 24)))) C) : Mt G M_X1_hourOfDay [.ref d] C Q X := by
  refine Mt_of (by decide) (Nat.le_of_ble_eq_true rfl) ?_
  obtain ⟨s0, s1, s2, s3, v4, v5, v6, v7, v8, v9, v10⟩ := SkD_f hS hV
  obtain ⟨hK, -, -, -, -, k1, n1, k2, n2, k3, n3, k4, n4, hbus⟩ := id hS
  obtain ⟨w1, w2, w7, w8, w9, w10, w11, w11', w12, wB, wP⟩ := id hW
  refine x_aload_n dX1_hourOfDay_0 rfl ?_
  refine x_get 3 hO dX1_hourOfDay_1 f_X1_44 (by assumption) ⟨by decide, by decide⟩ (v := .int (nI (ρ 0))) v6 ?_
  refine x_bipush (v := nI 24) dX1_hourOfDay_4 (by decide) ?_
  refine x_irem dX1_hourOfDay_6 (by decide) ?_
  refine x_iret dX1_hourOfDay_7 rfl rfl ?_
  rw [pk_rem (by omega) (by omega) (by omega)]; exact hq
theorem s_hasCharger {G : GT} {C : AH} {Q : QT} {X : XT} {d : Nat} {ρ : Rw} {c : Int32} (hO : GO G) (hS : SkD C d) (hV : VaD (gI C) d ρ) (hW : Wf ρ) (hq : ∀ r : Int32, r = (if nI 0 ≤ c ∧ c ≤ nI (ρ 2) - nI 1 then 1 else 0) → Q (some (.int r)) C) : Mt G M_X1_hasCharger [.ref d, .int c] C Q X := by
  refine Mt_of (by decide) (Nat.le_of_ble_eq_true rfl) ?_
  obtain ⟨s0, s1, s2, s3, v4, v5, v6, v7, v8, v9, v10⟩ := SkD_f hS hV
  obtain ⟨hK, -, -, -, -, k1, n1, k2, n2, k3, n3, k4, n4, hbus⟩ := id hS
  obtain ⟨w1, w2, w7, w8, w9, w10, w11, w11', w12, wB, wP⟩ := id hW
  refine x_iload_n dX1_hasCharger_0 rfl ?_
  refine x_iconst (v := nI 0) dX1_hasCharger_1 (by decide) ?_
  refine x_aload_n dX1_hasCharger_2 rfl ?_
  refine x_get 3 hO dX1_hasCharger_3 f_X1_41 (by assumption) ⟨by decide, by decide⟩ (v := .int (nI (ρ 2))) v5 ?_
  refine x_iconst (v := nI 1) dX1_hasCharger_6 (by decide) ?_
  refine x_isub dX1_hasCharger_7 ?_
  refine x_callSN (As := [_, _, _]) hO dX1_hasCharger_8 o_X4_isWithin s_X4_isWithin (n_X1_63 hO) ⟨by decide, by decide⟩ ⟨by decide, by decide⟩ rfl rfl (Nat.le_of_ble_eq_true rfl) (s_isWithin hO (fun r8 hr8 => ?_))
  dsimp only [Option.toList, List.cons_append, List.nil_append]
  refine x_iret dX1_hasCharger_11 rfl (by subst hr8; split <;> rfl) ?_
  exact hq _ hr8
theorem s_powerOf {G : GT} {C : AH} {Q : QT} {X : XT} {d : Nat} {ρ : Rw} {c : Nat} (hO : GO G) (hS : SkD C d) (hV : VaD (gI C) d ρ) (hW : Wf ρ) (hc : c < ρ 2) (hq : Q (some (.int (nI (ρ (69 + c))))) C) : Mt G M_X1_powerOf [.ref d, .int (nI c)] C Q X := by
  refine Mt_of (by decide) (Nat.le_of_ble_eq_true rfl) ?_
  obtain ⟨s0, s1, s2, s3, v4, v5, v6, v7, v8, v9, v10⟩ := SkD_f hS hV
  obtain ⟨hK, -, -, -, -, k1, n1, k2, n2, k3, n3, k4, n4, hbus⟩ := id hS
  obtain ⟨w1, w2, w7, w8, w9, w10, w11, w11', w12, wB, wP⟩ := id hW
  refine x_aload_n dX1_powerOf_0 rfl ?_
  refine x_iload_n dX1_powerOf_1 rfl ?_
  refine x_callV (As := [_]) 3 hO dX1_powerOf_2 o_X1_hasCharger v_X1_hasCharger l_X1_67 ⟨by decide, by decide⟩ (by assumption) ⟨by decide, by decide⟩ rfl ⟨by decide, by decide⟩ rfl rfl (Nat.le_of_ble_eq_true rfl) (s_hasCharger hO hS hV hW (fun r2 hr2 => ?_))
  dsimp only [Option.toList, List.cons_append, List.nil_append]
  refine x_if_eq (tgt := 17) dX1_powerOf_5 (by decide) (fun c5 => ?_) (fun c5 => ?_)
  · exact absurd ((ix_of (by omega)).mpr ⟨c, hc, rfl⟩) ((ite01 hr2).1 c5)
  · have p2 := (ite01 hr2).2 c5
    have hP := hV.2.2.2.2.2.2.2.2.2
    refine x_aload_n dX1_powerOf_8 rfl ?_
    refine x_get 3 hO dX1_powerOf_9 f_X1_17 (by assumption) ⟨by decide, by decide⟩ (v := .ref (d + 2)) s1 ?_
    refine x_iload_n dX1_powerOf_12 rfl ?_
    refine x_iald _ _ hO dX1_powerOf_13 (by assumption) rfl (by assumption) (by omega) (by decide) ?_
    refine x_goto (tgt := 18) dX1_powerOf_14 (by decide) ?_
    refine x_iret dX1_powerOf_18 rfl rfl ?_
    exact (hP c hc).1 ▸ hq
theorem s_busAt {G : GT} {C : AH} {Q : QT} {X : XT} {d : Nat} {ρ : Rw} {b : Int32} (hO : GO G) (hS : SkD C d) (hV : VaD (gI C) d ρ) (hW : Wf ρ) (h1 : ∀ j, j < ρ 1 → b = nI j → Q (some (.ref (d + 5 + j))) C) (h0 : (∀ j, j < ρ 1 → b ≠ nI j) → Q (some .null) C) : Mt G M_X1_busAt [.ref d, .int b] C Q X := by
  refine Mt_of (by decide) (Nat.le_of_ble_eq_true rfl) ?_
  obtain ⟨s0, s1, s2, s3, v4, v5, v6, v7, v8, v9, v10⟩ := SkD_f hS hV
  obtain ⟨hK, -, -, -, -, k1, n1, k2, n2, k3, n3, k4, n4, hbus⟩ := id hS
  obtain ⟨w1, w2, w7, w8, w9, w10, w11, w11', w12, wB, wP⟩ := id hW
  refine x_iload_n dX1_busAt_0 rfl ?_
  refine x_iconst (v := nI 0) dX1_busAt_1 (by decide) ?_
  refine x_aload_n dX1_busAt_2 rfl ?_
  refine x_get 3 hO dX1_busAt_3 f_X1_37 (by assumption) ⟨by decide, by decide⟩ (v := .int (nI (ρ 1))) v4 ?_
  refine x_iconst (v := nI 1) dX1_busAt_6 (by decide) ?_
  refine x_isub dX1_busAt_7 ?_
  refine x_callSN (As := [_, _, _]) hO dX1_busAt_8 o_X4_isWithin s_X4_isWithin (n_X1_63 hO) ⟨by decide, by decide⟩ ⟨by decide, by decide⟩ rfl rfl (Nat.le_of_ble_eq_true rfl) (s_isWithin hO (fun r8 hr8 => ?_))
  dsimp only [Option.toList, List.cons_append, List.nil_append]
  refine x_if_eq (tgt := 23) dX1_busAt_11 (by decide) (fun c11 => ?_) (fun c11 => ?_)
  · have p8 := (ite01 hr8).1 c11
    refine x_null dX1_busAt_23 ?_
    refine x_aret (r := none) dX1_busAt_24 rfl (Or.inl ⟨_, rfl⟩) ?_
    exact h0 fun j hj e => p8 ((ix_of (by omega)).mpr ⟨j, hj, e⟩)
  · have p8 := (ite01 hr8).2 c11
    obtain ⟨j, hj, rfl⟩ := (ix_of (by omega)).mp p8
    refine x_aload_n dX1_busAt_14 rfl ?_
    refine x_get 3 hO dX1_busAt_15 f_X1_11 (by assumption) ⟨by decide, by decide⟩ (v := .ref (d + 1)) s0 ?_
    refine x_iload_n dX1_busAt_18 rfl ?_
    refine x_aald 25 _ _ hO dX1_busAt_19 (by assumption) (by decide) rfl (by assumption) (by omega) (by decide) ?_
    refine x_goto (tgt := 24) dX1_busAt_20 (by decide) ?_
    try rw [(hbus j (by omega)).1]
    refine x_aret (r := some _) dX1_busAt_24 rfl (by first | exact Or.inl ⟨_, rfl⟩ | exact Or.inr ⟨_, rfl⟩) ?_
    exact h1 j hj rfl
theorem s_settingOf {G : GT} {C : AH} {Q : QT} {X : XT} {d : Nat} {ρ : Rw} {k : Nat} (hO : GO G) (hS : SkD C d) (hV : VaD (gI C) d ρ) (hW : Wf ρ) (hk : k < 6) (hq : Q (some (.int (nI (ρ (7 + k))))) C) : Mt G M_X1_settingOf [.ref d, .int (nI k)] C Q X := by
  refine Mt_of (by decide) (Nat.le_of_ble_eq_true rfl) ?_
  obtain ⟨s0, s1, s2, s3, v4, v5, v6, v7, v8, v9, v10⟩ := SkD_f hS hV
  obtain ⟨hK, -, -, -, -, k1, n1, k2, n2, k3, n3, k4, n4, hbus⟩ := id hS
  obtain ⟨w1, w2, w7, w8, w9, w10, w11, w11', w12, wB, wP⟩ := id hW
  refine x_iload_n dX1_settingOf_0 rfl ?_
  refine x_iconst (v := nI 0) dX1_settingOf_1 (by decide) ?_
  refine x_iconst (v := nI 5) dX1_settingOf_2 (by decide) ?_
  refine x_callSN (As := [_, _, _]) hO dX1_settingOf_3 o_X4_isWithin s_X4_isWithin (n_X1_63 hO) ⟨by decide, by decide⟩ ⟨by decide, by decide⟩ rfl rfl (Nat.le_of_ble_eq_true rfl) (s_isWithin hO (fun r3 hr3 => ?_))
  dsimp only [Option.toList, List.cons_append, List.nil_append]
  refine x_if_eq (tgt := 18) dX1_settingOf_6 (by decide) (fun c6 => ?_) (fun c6 => ?_)
  · exact absurd ⟨nI_le (Nat.zero_le k) (by omega), nI_le (show k ≤ 5 by omega) (by omega)⟩ ((ite01 hr3).1 c6)
  · have p3 := (ite01 hr3).2 c6
    refine x_aload_n dX1_settingOf_9 rfl ?_
    refine x_get 3 hO dX1_settingOf_10 f_X1_24 (by assumption) ⟨by decide, by decide⟩ (v := .ref (d + 4)) s3 ?_
    refine x_iload_n dX1_settingOf_13 rfl ?_
    refine x_iald _ _ hO dX1_settingOf_14 (by assumption) rfl (by assumption) (by omega) (by decide) ?_
    refine x_goto (tgt := 19) dX1_settingOf_15 (by decide) ?_
    refine x_iret dX1_settingOf_19 rfl rfl ?_
    exact (hV.2.2.2.2.2.2.2.1 k hk) ▸ hq
theorem xor24 (x : Int32) : x ^^^ nI 24 < 0 ↔ x < 0 := by
  have h : ∀ y : Int32, y < 0 ↔ y.toBitVec.msb = true := by
    intro y
    rw [Int32.lt_iff_toInt_lt, BitVec.msb_eq_toInt]
    rw [Int32.toInt_zero, decide_eq_true_iff]
    exact Iff.rfl
  rw [h, h, Int32.toBitVec_xor, BitVec.msb_xor]
  have : (nI 24).toBitVec.msb = false := by decide
  rw [this]
  simp
theorem nI_toN {x : Int32} {z : Nat} (h : x.toInt = (z : Int)) (hz : z < 2147483648) : x = nI z := Int32.toInt_inj.mp (h.trans (nI_toInt hz).symm)
theorem s_floorMod {G : GT} {C : AH} {Q : QT} {X : XT} {x : Int32} {z : Int} (hO : GO G) (hx : x.toInt = z) (h1 : -1000000 < z) (h2 : z < 1000000) (hq : Q (some (.int (nI (z % 24).toNat))) C) : Mt G M_J9_floorMod_7cf53 [.int x, .int (nI 24)] C Q X := by
  refine Mt_ofF (by decide +kernel) (Nat.le_of_ble_eq_true rfl) ?_
  have hm := fm_rem hx h1 h2
  have h24 : (nI 24).toInt = 24 := by decide
  have ht := tm24 z
  have hz : (0 ≤ x ^^^ nI 24) ↔ 0 ≤ z := by
    rw [← Int32.not_lt, xor24, Int32.lt_iff_toInt_lt, hx, Int32.toInt_zero]
    omega
  refine x_iload_n dJ9_floorMod_7cf53_0 rfl ?_
  refine x_iload_n dJ9_floorMod_7cf53_1 rfl ?_
  refine x_irem dJ9_floorMod_7cf53_2 (by decide) ?_
  refine x_istore_n dJ9_floorMod_7cf53_3 (by decide) ?_
  refine x_iload_n dJ9_floorMod_7cf53_4 rfl ?_
  refine x_iload_n dJ9_floorMod_7cf53_5 rfl ?_
  refine x_ixor dJ9_floorMod_7cf53_6 ?_
  refine x_if_ge (tgt := 18) dJ9_floorMod_7cf53_7 (by decide) (fun c7 => ?_) (fun c7 => ?_)
  · rw [hz] at c7
    refine x_iload_n dJ9_floorMod_7cf53_18 rfl ?_
    refine x_iret dJ9_floorMod_7cf53_19 rfl rfl ?_
    refine Eq.mp (congrArg (fun v => Q (some (.int v)) C) ?_) hq
    refine (nI_toN ?_ (by omega)).symm
    rw [hm]
    omega
  · rw [hz] at c7
    refine x_iload_n dJ9_floorMod_7cf53_10 rfl ?_
    refine x_if_eq (tgt := 18) dJ9_floorMod_7cf53_11 (by decide) (fun c11 => ?_) (fun c11 => ?_)
    · have c12 : z.tmod 24 = 0 := by rw [← hm, c11]; rfl
      refine x_iload_n dJ9_floorMod_7cf53_18 rfl ?_
      refine x_iret dJ9_floorMod_7cf53_19 rfl rfl ?_
      refine Eq.mp (congrArg (fun v => Q (some (.int v)) C) ?_) hq
      refine (nI_toN ?_ (by omega)).symm
      rw [hm]
      omega
    · have c12 : ¬ z.tmod 24 = 0 := fun e => c11 (Int32.toInt_inj.mp (by rw [hm, e]; rfl))
      refine x_iload_n dJ9_floorMod_7cf53_14 rfl ?_
      refine x_iload_n dJ9_floorMod_7cf53_15 rfl ?_
      refine x_iadd dJ9_floorMod_7cf53_16 ?_
      refine x_iret dJ9_floorMod_7cf53_17 rfl rfl ?_
      refine Eq.mp (congrArg (fun v => Q (some (.int v)) C) ?_) hq
      refine (nI_toN ?_ (by omega)).symm
      rw [Int32.toInt_add, hm, h24]
      rw [Int.bmod_eq_of_le (by omega) (by omega)]
      omega
theorem s_isNight {G : GT} {C : AH} {Q : QT} {X : XT} {d : Nat} {ρ : Rw} (hO : GO G) (hS : SkD C d) (hV : VaD (gI C) d ρ) (hW : Wf ρ) (hb : ρ 0 < 1000000) (hq : ∀ r : Int32, r = (if nite ρ then 1 else 0) → Q (some (.int r)) C) : Mt G M_X1_isNight [.ref d] C Q X := by
  refine Mt_of (by decide) (Nat.le_of_ble_eq_true rfl) ?_
  obtain ⟨s0, s1, s2, s3, v4, v5, v6, v7, v8, v9, v10⟩ := SkD_f hS hV
  obtain ⟨hK, -, -, -, -, k1, n1, k2, n2, k3, n3, k4, n4, hbus⟩ := id hS
  obtain ⟨w1, w2, w7, w8, w9, w10, w11, w11', w12, wB, wP⟩ := id hW
  refine x_aload_n dX1_isNight_0 rfl ?_
  refine x_get 3 hO dX1_isNight_1 f_X1_44 (by assumption) ⟨by decide, by decide⟩ (v := .int (nI (ρ 0))) v6 ?_
  refine x_aload_n dX1_isNight_4 rfl ?_
  refine x_get 3 hO dX1_isNight_5 f_X1_24 (by assumption) ⟨by decide, by decide⟩ (v := .ref (d + 4)) s3 ?_
  refine x_iconst (v := nI 5) dX1_isNight_8 (by decide) ?_
  refine x_iald _ _ hO dX1_isNight_9 (by assumption) rfl (by assumption) (by omega) (by decide) ?_
  rw [show gI C (d + 4) 5 = nI (ρ 12) from hV.2.2.2.2.2.2.2.1 5 (by decide)]
  refine x_isub dX1_isNight_10 ?_
  refine x_bipush (v := nI 24) dX1_isNight_11 (by decide) ?_
  refine x_callS (As := [_, _]) hO dX1_isNight_13 o_J9_floorMod_7cf53 s_J9_floorMod_7cf53 l_X1_86 ⟨by decide, by decide⟩ ⟨by decide, by decide⟩ rfl rfl (Nat.le_of_ble_eq_true rfl) (s_floorMod hO (z := (ρ 0 : Int) - ρ 12) (fm24 hb (by omega)) (by omega) (by omega) ?_)
  dsimp only [Option.toList, List.cons_append, List.nil_append]
  refine x_bipush (v := nI 8) dX1_isNight_16 (by decide) ?_
  refine x_icmp_ge (tgt := 25) dX1_isNight_18 (by decide) (fun c18 => ?_) (fun c18 => ?_)
  · refine x_iconst (v := nI 0) dX1_isNight_25 (by decide) ?_
    refine x_iret dX1_isNight_26 rfl (by first | rfl | assumption) ?_
    have e : (((ρ 0 : Int) - (ρ 12 : Int)) % 24).toNat = (ρ 0 % 24 + 24 - ρ 12) % 24 := by omega
    rw [e] at c18
    simp (disch := omega) only [nI_leI] at c18
    exact hq _ (by first | (rw [if_pos (by omega)]; rfl) | (rw [if_neg (by omega)]; rfl))
  · refine x_iconst (v := nI 1) dX1_isNight_21 (by decide) ?_
    refine x_goto (tgt := 26) dX1_isNight_22 (by decide) ?_
    refine x_iret dX1_isNight_26 rfl (by first | rfl | assumption) ?_
    have e : (((ρ 0 : Int) - (ρ 12 : Int)) % 24).toNat = (ρ 0 % 24 + 24 - ρ 12) % 24 := by omega
    rw [e] at c18
    simp (disch := omega) only [nI_leI] at c18
    exact hq _ (by first | (rw [if_pos (by omega)]; rfl) | (rw [if_neg (by omega)]; rfl))
theorem s_hoursUntil {G : GT} {C : AH} {Q : QT} {X : XT} {d : Nat} {ρ : Rw} {j : Nat} (hO : GO G) (hS : SkD C d) (hV : VaD (gI C) d ρ) (hW : Wf ρ) (hb : ρ 0 < 1000000) (hj : j < ρ 1) (hq : Q (some (.int (nI (hrs ρ j)))) C) : Mt G M_X1_hoursUntilLeaving [.ref d, .ref (d + 5 + j)] C Q X := by
  refine Mt_of (by decide) (Nat.le_of_ble_eq_true rfl) ?_
  obtain ⟨s0, s1, s2, s3, v4, v5, v6, v7, v8, v9, v10⟩ := SkD_f hS hV
  obtain ⟨hK, -, -, -, -, k1, n1, k2, n2, k3, n3, k4, n4, hbus⟩ := id hS
  obtain ⟨w1, w2, w7, w8, w9, w10, w11, w11', w12, wB, wP⟩ := id hW
  obtain ⟨b0, b0', b1, b2, b2', b3, b4, b34, b6⟩ := wB j hj
  have kb := (hbus j (by omega)).2
  have eh : hrs ρ j = if ρ 0 % 24 < ρ (bi j 3) then ρ (bi j 3) - ρ 0 % 24 else ρ (bi j 3) + 24 - ρ 0 % 24 := by
    unfold hrs
    split <;> split <;> omega
  have hs : (nI (ρ (bi j 3)) - nI (ρ 0 % 24)).toInt = (ρ (bi j 3) : Int) - (ρ 0 % 24 : Nat) := pk_sub_toInt (by omega) (by omega)
  have hz : (nI (ρ (bi j 3)) - nI (ρ 0 % 24) ≤ 0) ↔ ρ (bi j 3) ≤ ρ 0 % 24 := by
    rw [Int32.le_iff_toInt_le, hs, Int32.toInt_zero]
    omega
  have h24 : (nI 24).toInt = 24 := by decide
  have hl : hrs ρ j < 100 := by rw [eh]; split <;> omega
  refine x_aload_n dX1_hoursUntilLeaving_0 rfl ?_
  refine x_get 2 hO dX1_hoursUntilLeaving_1 f_X1_92 (by assumption) ⟨by decide, by decide⟩ (v := .int (nI (ρ (bi j 3)))) (congrArg Value.int (hV.2.2.2.2.2.2.2.2.1 j hj 3 (by decide))) ?_
  refine x_aload_n dX1_hoursUntilLeaving_4 rfl ?_
  refine x_callV (As := []) 3 hO dX1_hoursUntilLeaving_5 o_X1_hourOfDay v_X1_hourOfDay l_X1_95 ⟨by decide, by decide⟩ (by assumption) ⟨by decide, by decide⟩ rfl ⟨by decide, by decide⟩ rfl rfl (Nat.le_of_ble_eq_true rfl) (s_hourOfDay hO hS hV hW hb ?_)
  dsimp only [Option.toList, List.cons_append, List.nil_append]
  refine x_isub dX1_hoursUntilLeaving_8 ?_
  refine x_istore_n dX1_hoursUntilLeaving_9 (by decide) ?_
  refine x_iload_n dX1_hoursUntilLeaving_10 rfl ?_
  refine x_if_le (tgt := 18) dX1_hoursUntilLeaving_11 (by decide) (fun c11 => ?_) (fun c11 => ?_)
  · refine x_iload_n dX1_hoursUntilLeaving_18 rfl ?_
    refine x_bipush (v := nI 24) dX1_hoursUntilLeaving_19 (by decide) ?_
    refine x_iadd dX1_hoursUntilLeaving_21 ?_
    refine x_iret dX1_hoursUntilLeaving_22 rfl rfl ?_
    refine Eq.mp (congrArg (fun v => Q (some (.int v)) C) (nI_toN ?_ (by omega)).symm) hq
    rw [hz] at c11
    first
      | (rw [hs, eh, if_pos (by omega)]; omega)
      | (rw [Int32.toInt_add, hs, h24, eh, if_neg (by omega), Int.bmod_eq_of_le (by omega) (by omega)]; omega)
  · refine x_iload_n dX1_hoursUntilLeaving_14 rfl ?_
    refine x_goto (tgt := 22) dX1_hoursUntilLeaving_15 (by decide) ?_
    refine x_iret dX1_hoursUntilLeaving_22 rfl rfl ?_
    refine Eq.mp (congrArg (fun v => Q (some (.int v)) C) (nI_toN ?_ (by omega)).symm) hq
    rw [hz] at c11
    first
      | (rw [hs, eh, if_pos (by omega)]; omega)
      | (rw [Int32.toInt_add, hs, h24, eh, if_neg (by omega), Int.bmod_eq_of_le (by omega) (by omega)]; omega)
theorem s_isDue {G : GT} {C : AH} {Q : QT} {X : XT} {d : Nat} {ρ : Rw} {j : Nat} (hO : GO G) (hS : SkD C d) (hV : VaD (gI C) d ρ) (hW : Wf ρ) (hb : ρ 0 < 1000000) (hj : j < ρ 1) (hq : ∀ r : Int32, r = (if ρ (bi j 6) = 0 ∧ ρ (bi j 3) = ρ 0 % 24 then 1 else 0) → Q (some (.int r)) C) : Mt G M_X1_isDue [.ref d, .ref (d + 5 + j)] C Q X := by
  refine Mt_of (by decide) (Nat.le_of_ble_eq_true rfl) ?_
  obtain ⟨s0, s1, s2, s3, v4, v5, v6, v7, v8, v9, v10⟩ := SkD_f hS hV
  obtain ⟨hK, -, -, -, -, k1, n1, k2, n2, k3, n3, k4, n4, hbus⟩ := id hS
  obtain ⟨w1, w2, w7, w8, w9, w10, w11, w11', w12, wB, wP⟩ := id hW
  obtain ⟨b0, b0', b1, b2, b2', b3, b4, b34, b6⟩ := wB j hj
  have kb := (hbus j (by omega)).2
  refine x_aload_n dX1_isDue_0 rfl ?_
  refine x_get 2 hO dX1_isDue_1 f_X1_71 (by assumption) ⟨by decide, by decide⟩ (v := .int (nI (ρ (bi j 6)))) (congrArg Value.int (hV.2.2.2.2.2.2.2.2.1 j hj 6 (by decide))) ?_
  refine x_if_ne (tgt := 22) dX1_isDue_4 (by decide) (fun c4 => ?_) (fun c4 => ?_)
  · refine x_iconst (v := nI 0) dX1_isDue_22 (by decide) ?_
    refine x_iret dX1_isDue_23 rfl (by first | rfl | assumption) ?_
    try simp (disch := omega) only [nI_leI, nI_ltI, nI_eq, nI_z] at *
    exact hq _ (by first | (rw [if_pos (by omega)]; rfl) | (rw [if_neg (by omega)]; rfl))
  · refine x_aload_n dX1_isDue_7 rfl ?_
    refine x_get 2 hO dX1_isDue_8 f_X1_92 (by assumption) ⟨by decide, by decide⟩ (v := .int (nI (ρ (bi j 3)))) (congrArg Value.int (hV.2.2.2.2.2.2.2.2.1 j hj 3 (by decide))) ?_
    refine x_aload_n dX1_isDue_11 rfl ?_
    refine x_callV (As := []) 3 hO dX1_isDue_12 o_X1_hourOfDay v_X1_hourOfDay l_X1_95 ⟨by decide, by decide⟩ (by assumption) ⟨by decide, by decide⟩ rfl ⟨by decide, by decide⟩ rfl rfl (Nat.le_of_ble_eq_true rfl) (s_hourOfDay hO hS hV hW hb ?_)
    dsimp only [Option.toList, List.cons_append, List.nil_append]
    refine x_icmp_ne (tgt := 22) dX1_isDue_15 (by decide) (fun c15 => ?_) (fun c15 => ?_)
    · refine x_iconst (v := nI 0) dX1_isDue_22 (by decide) ?_
      refine x_iret dX1_isDue_23 rfl (by first | rfl | assumption) ?_
      try simp (disch := omega) only [nI_leI, nI_ltI, nI_eq, nI_z] at *
      exact hq _ (by first | (rw [if_pos (by omega)]; rfl) | (rw [if_neg (by omega)]; rfl))
    · refine x_iconst (v := nI 1) dX1_isDue_18 (by decide) ?_
      refine x_goto (tgt := 23) dX1_isDue_19 (by decide) ?_
      refine x_iret dX1_isDue_23 rfl (by first | rfl | assumption) ?_
      try simp (disch := omega) only [nI_leI, nI_ltI, nI_eq, nI_z] at *
      exact hq _ (by first | (rw [if_pos (by omega)]; rfl) | (rw [if_neg (by omega)]; rfl))
