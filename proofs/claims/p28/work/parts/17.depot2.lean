/-! a depot: counting, single buses *)-/
theorem s_countOut {G : GT} {C : AH} {Q : QT} {X : XT} {d : Nat} {ρ : Rw} (hO : GO G) (hS : SkD C d) (hV : VaD (gI C) d ρ) (hW : Wf ρ) (hq : Q (some (.int (nI (sm (fun b => ρ (bi b 6)) (ρ 1))))) C) : Mt G M_X1_countOut [.ref d] C Q X := by
  refine Mt_of (by decide) (Nat.le_of_ble_eq_true rfl) ?_
  obtain ⟨s0, s1, s2, s3, v4, v5, v6, v7, v8, v9, v10⟩ := SkD_f hS hV
  obtain ⟨hK, -, -, -, -, k1, n1, k2, n2, k3, n3, k4, n4, hbus⟩ := id hS
  obtain ⟨w1, w2, w7, w8, w9, w10, w11, w11', w12, wB, wP⟩ := id hW
  have vb := hV.2.2.2.2.2.2.2.2.1
  have loop : ∀ m b : Nat, ρ 1 - b = m → b ≤ ρ 1 → Ex G M_X1_countOut Q X (mC M_X1_countOut) (mS M_X1_countOut) 4 [(0, .ref d), (1, .int (nI (sm (fun b => ρ (bi b 6)) b))), (2, .int (nI b))] [] C := by
    intro m
    induction m using Nat.strongRecOn with
    | _ m ih =>
    intro b hm hb
    refine x_iload_n dX1_countOut_4 rfl ?_
    refine x_aload_n dX1_countOut_5 rfl ?_
    refine x_get 3 hO dX1_countOut_6 f_X1_37 (by assumption) ⟨by decide, by decide⟩ (v := .int (nI (ρ 1))) v4 ?_
    refine x_icmp_ge (tgt := 33) dX1_countOut_9 (by decide) (fun c9 => ?_) (fun c9 => ?_)
    · simp (disch := omega) only [nI_leI] at c9
      have hbe : b = ρ 1 := by omega
      subst hbe
      refine x_iload_n dX1_countOut_33 rfl ?_
      refine x_iret dX1_countOut_34 rfl rfl ?_
      exact hq
    · simp (disch := omega) only [nI_leI] at c9
      have hb9 : b < ρ 1 := by omega
      have kb := (hbus b (by omega)).2
      obtain ⟨b0, b0', b1, b2, b2', b3, b4, b34, b6⟩ := wB b hb9
      refine x_aload_n dX1_countOut_12 rfl ?_
      refine x_get 3 hO dX1_countOut_13 f_X1_11 (by assumption) ⟨by decide, by decide⟩ (v := .ref (d + 1)) s0 ?_
      refine x_iload_n dX1_countOut_16 rfl ?_
      refine x_aald 25 _ _ hO dX1_countOut_17 (by assumption) (by decide) rfl (by assumption) (by omega) (by decide) ?_
      rw [(hbus b (by omega)).1]
      refine x_get 2 hO dX1_countOut_18 f_X1_71 (by assumption) ⟨by decide, by decide⟩ (v := .int (nI (ρ (bi b 6)))) (congrArg Value.int (vb b hb9 6 (by decide))) ?_
      refine x_if_eq (tgt := 27) dX1_countOut_21 (by decide) (fun c21 => ?_) (fun c21 => ?_)
      · refine x_iinc (v := nI 1) dX1_countOut_27 rfl (by decide) (by decide) ?_
        refine x_goto (tgt := 4) dX1_countOut_30 (by decide) ?_
        simp only [nI_add]
        have e : sm (fun b => ρ (bi b 6)) (b + 1) = sm (fun b => ρ (bi b 6)) b + ρ (bi b 6) := rfl
        simp (disch := omega) only [nI_z] at c21
        first | rw [show ρ (bi b 6) = 0 by omega] at e | rw [show ρ (bi b 6) = 1 by omega] at e
        refine x_ls [(0, .ref d), (1, .int (nI (sm (fun b => ρ (bi b 6)) (b + 1)))), (2, .int (nI (b + 1)))] ⟨rfl, by rw [e]; rfl, rfl, trivial⟩ ?_
        exact ih (m - 1) (by omega) (b + 1) (by omega) (by omega)
      · refine x_iinc (v := nI 1) dX1_countOut_24 rfl (by decide) (by decide) ?_
        refine x_iinc (v := nI 1) dX1_countOut_27 rfl (by decide) (by decide) ?_
        refine x_goto (tgt := 4) dX1_countOut_30 (by decide) ?_
        simp only [nI_add]
        have e : sm (fun b => ρ (bi b 6)) (b + 1) = sm (fun b => ρ (bi b 6)) b + ρ (bi b 6) := rfl
        simp (disch := omega) only [nI_z] at c21
        first | rw [show ρ (bi b 6) = 0 by omega] at e | rw [show ρ (bi b 6) = 1 by omega] at e
        refine x_ls [(0, .ref d), (1, .int (nI (sm (fun b => ρ (bi b 6)) (b + 1)))), (2, .int (nI (b + 1)))] ⟨rfl, by rw [e]; rfl, rfl, trivial⟩ ?_
        exact ih (m - 1) (by omega) (b + 1) (by omega) (by omega)
  refine x_iconst (v := nI 0) dX1_countOut_0 (by decide) ?_
  refine x_istore_n dX1_countOut_1 (by decide) ?_
  refine x_iconst (v := nI 0) dX1_countOut_2 (by decide) ?_
  refine x_istore_n dX1_countOut_3 (by decide) ?_
  refine x_ls [(0, .ref d), (1, .int (nI 0)), (2, .int (nI 0))] ⟨rfl, rfl, rfl, trivial⟩ ?_
  exact loop _ 0 rfl (Nat.zero_le _)

theorem s_countLow {G : GT} {C : AH} {Q : QT} {X : XT} {d : Nat} {ρ : Rw} (hO : GO G) (hS : SkD C d) (hV : VaD (gI C) d ρ) (hW : Wf ρ) (hq : Q (some (.int (nI (sm (fun b => if ρ (bi b 6) = 0 ∧ ρ (bi b 1) < ρ (bi b 2) then 1 else 0) (ρ 1))))) C) : Mt G M_X1_countLow [.ref d] C Q X := by
  refine Mt_of (by decide) (Nat.le_of_ble_eq_true rfl) ?_
  obtain ⟨s0, s1, s2, s3, v4, v5, v6, v7, v8, v9, v10⟩ := SkD_f hS hV
  obtain ⟨hK, -, -, -, -, k1, n1, k2, n2, k3, n3, k4, n4, hbus⟩ := id hS
  obtain ⟨w1, w2, w7, w8, w9, w10, w11, w11', w12, wB, wP⟩ := id hW
  have vb := hV.2.2.2.2.2.2.2.2.1
  have loop : ∀ m b : Nat, ρ 1 - b = m → b ≤ ρ 1 → Ex G M_X1_countLow Q X (mC M_X1_countLow) (mS M_X1_countLow) 4 [(0, .ref d), (1, .int (nI (sm (fun b => if ρ (bi b 6) = 0 ∧ ρ (bi b 1) < ρ (bi b 2) then 1 else 0) b))), (2, .int (nI b))] [] C := by
    intro m
    induction m using Nat.strongRecOn with
    | _ m ih =>
    intro b hm hb
    refine x_iload_n dX1_countLow_4 rfl ?_
    refine x_aload_n dX1_countLow_5 rfl ?_
    refine x_get 3 hO dX1_countLow_6 f_X1_37 (by assumption) ⟨by decide, by decide⟩ (v := .int (nI (ρ 1))) v4 ?_
    refine x_icmp_ge (tgt := 33) dX1_countLow_9 (by decide) (fun c9 => ?_) (fun c9 => ?_)
    · simp (disch := omega) only [nI_leI] at c9
      have hbe : b = ρ 1 := by omega
      subst hbe
      refine x_iload_n dX1_countLow_33 rfl ?_
      refine x_iret dX1_countLow_34 rfl rfl ?_
      exact hq
    · simp (disch := omega) only [nI_leI] at c9
      have hb9 : b < ρ 1 := by omega
      have kb := (hbus b (by omega)).2
      obtain ⟨b0, b0', b1, b2, b2', b3, b4, b34, b6⟩ := wB b hb9
      refine x_aload_n dX1_countLow_12 rfl ?_
      refine x_get 3 hO dX1_countLow_13 f_X1_11 (by assumption) ⟨by decide, by decide⟩ (v := .ref (d + 1)) s0 ?_
      refine x_iload_n dX1_countLow_16 rfl ?_
      refine x_aald 25 _ _ hO dX1_countLow_17 (by assumption) (by decide) rfl (by assumption) (by omega) (by decide) ?_
      rw [(hbus b (by omega)).1]
      refine x_callV (As := []) 2 hO dX1_countLow_18 o_X0_isLow v_X0_isLow l_X1_75 ⟨by decide, by decide⟩ (by assumption) ⟨by decide, by decide⟩ rfl ⟨by decide, by decide⟩ rfl rfl (Nat.le_of_ble_eq_true rfl) (s_X0_isLow hO kb (fun r18 hr18 => ?_))
      dsimp only [Option.toList, List.cons_append, List.nil_append]
      refine x_if_eq (tgt := 27) dX1_countLow_21 (by decide) (fun c21 => ?_) (fun c21 => ?_)
      · have p18 := (ite01 hr18).1 c21
        refine x_iinc (v := nI 1) dX1_countLow_27 rfl (by decide) (by decide) ?_
        refine x_goto (tgt := 4) dX1_countLow_30 (by decide) ?_
        simp only [nI_add]
        have e : sm (fun b => if ρ (bi b 6) = 0 ∧ ρ (bi b 1) < ρ (bi b 2) then 1 else 0) (b + 1) = sm (fun b => if ρ (bi b 6) = 0 ∧ ρ (bi b 1) < ρ (bi b 2) then 1 else 0) b + if ρ (bi b 6) = 0 ∧ ρ (bi b 1) < ρ (bi b 2) then 1 else 0 := rfl
        rw [vb b hb9 6 (by decide), vb b hb9 1 (by decide), vb b hb9 2 (by decide)] at p18
        simp (disch := omega) only [nI_z, nI_ltI] at p18
        first | rw [if_neg (by omega)] at e | rw [if_pos (by omega)] at e
        refine x_ls [(0, .ref d), (1, .int (nI (sm (fun b => if ρ (bi b 6) = 0 ∧ ρ (bi b 1) < ρ (bi b 2) then 1 else 0) (b + 1)))), (2, .int (nI (b + 1)))] ⟨rfl, by rw [e]; rfl, rfl, trivial⟩ ?_
        exact ih (m - 1) (by omega) (b + 1) (by omega) (by omega)
      · have p18 := (ite01 hr18).2 c21
        refine x_iinc (v := nI 1) dX1_countLow_24 rfl (by decide) (by decide) ?_
        refine x_iinc (v := nI 1) dX1_countLow_27 rfl (by decide) (by decide) ?_
        refine x_goto (tgt := 4) dX1_countLow_30 (by decide) ?_
        simp only [nI_add]
        have e : sm (fun b => if ρ (bi b 6) = 0 ∧ ρ (bi b 1) < ρ (bi b 2) then 1 else 0) (b + 1) = sm (fun b => if ρ (bi b 6) = 0 ∧ ρ (bi b 1) < ρ (bi b 2) then 1 else 0) b + if ρ (bi b 6) = 0 ∧ ρ (bi b 1) < ρ (bi b 2) then 1 else 0 := rfl
        rw [vb b hb9 6 (by decide), vb b hb9 1 (by decide), vb b hb9 2 (by decide)] at p18
        simp (disch := omega) only [nI_z, nI_ltI] at p18
        first | rw [if_neg (by omega)] at e | rw [if_pos (by omega)] at e
        refine x_ls [(0, .ref d), (1, .int (nI (sm (fun b => if ρ (bi b 6) = 0 ∧ ρ (bi b 1) < ρ (bi b 2) then 1 else 0) (b + 1)))), (2, .int (nI (b + 1)))] ⟨rfl, by rw [e]; rfl, rfl, trivial⟩ ?_
        exact ih (m - 1) (by omega) (b + 1) (by omega) (by omega)
  refine x_iconst (v := nI 0) dX1_countLow_0 (by decide) ?_
  refine x_istore_n dX1_countLow_1 (by decide) ?_
  refine x_iconst (v := nI 0) dX1_countLow_2 (by decide) ?_
  refine x_istore_n dX1_countLow_3 (by decide) ?_
  refine x_ls [(0, .ref d), (1, .int (nI 0)), (2, .int (nI 0))] ⟨rfl, rfl, rfl, trivial⟩ ?_
  exact loop _ 0 rfl (Nat.zero_le _)

theorem s_sumOfCharges {G : GT} {C : AH} {Q : QT} {X : XT} {d : Nat} {ρ : Rw} (hO : GO G) (hS : SkD C d) (hV : VaD (gI C) d ρ) (hW : Wf ρ) (hq : Q (some (.int (nI (sm (fun b => ρ (bi b 1)) (ρ 1))))) C) : Mt G M_X1_sumOfCharges [.ref d] C Q X := by
  refine Mt_of (by decide) (Nat.le_of_ble_eq_true rfl) ?_
  obtain ⟨s0, s1, s2, s3, v4, v5, v6, v7, v8, v9, v10⟩ := SkD_f hS hV
  obtain ⟨hK, -, -, -, -, k1, n1, k2, n2, k3, n3, k4, n4, hbus⟩ := id hS
  obtain ⟨w1, w2, w7, w8, w9, w10, w11, w11', w12, wB, wP⟩ := id hW
  have vb := hV.2.2.2.2.2.2.2.2.1
  have loop : ∀ m b : Nat, ρ 1 - b = m → b ≤ ρ 1 → Ex G M_X1_sumOfCharges Q X (mC M_X1_sumOfCharges) (mS M_X1_sumOfCharges) 4 [(0, .ref d), (1, .int (nI (sm (fun b => ρ (bi b 1)) b))), (2, .int (nI b))] [] C := by
    intro m
    induction m using Nat.strongRecOn with
    | _ m ih =>
    intro b hm hb
    refine x_iload_n dX1_sumOfCharges_4 rfl ?_
    refine x_aload_n dX1_sumOfCharges_5 rfl ?_
    refine x_get 3 hO dX1_sumOfCharges_6 f_X1_37 (by assumption) ⟨by decide, by decide⟩ (v := .int (nI (ρ 1))) v4 ?_
    refine x_icmp_ge (tgt := 30) dX1_sumOfCharges_9 (by decide) (fun c9 => ?_) (fun c9 => ?_)
    · simp (disch := omega) only [nI_leI] at c9
      have hbe : b = ρ 1 := by omega
      subst hbe
      refine x_iload_n dX1_sumOfCharges_30 rfl ?_
      refine x_iret dX1_sumOfCharges_31 rfl rfl ?_
      exact hq
    · simp (disch := omega) only [nI_leI] at c9
      have hb9 : b < ρ 1 := by omega
      have kb := (hbus b (by omega)).2
      obtain ⟨b0, b0', b1, b2, b2', b3, b4, b34, b6⟩ := wB b hb9
      refine x_iload_n dX1_sumOfCharges_12 rfl ?_
      refine x_aload_n dX1_sumOfCharges_13 rfl ?_
      refine x_get 3 hO dX1_sumOfCharges_14 f_X1_11 (by assumption) ⟨by decide, by decide⟩ (v := .ref (d + 1)) s0 ?_
      refine x_iload_n dX1_sumOfCharges_17 rfl ?_
      refine x_aald 25 _ _ hO dX1_sumOfCharges_18 (by assumption) (by decide) rfl (by assumption) (by omega) (by decide) ?_
      rw [(hbus b (by omega)).1]
      refine x_get 2 hO dX1_sumOfCharges_19 f_X1_79 (by assumption) ⟨by decide, by decide⟩ (v := .int (nI (ρ (bi b 1)))) (congrArg Value.int (vb b hb9 1 (by decide))) ?_
      refine x_iadd dX1_sumOfCharges_22 ?_
      refine x_istore_n dX1_sumOfCharges_23 (by decide) ?_
      refine x_iinc (v := nI 1) dX1_sumOfCharges_24 rfl (by decide) (by decide) ?_
      refine x_goto (tgt := 4) dX1_sumOfCharges_27 (by decide) ?_
      simp only [nI_add]
      have e : sm (fun b => ρ (bi b 1)) (b + 1) = sm (fun b => ρ (bi b 1)) b + ρ (bi b 1) := rfl
      refine x_ls [(0, .ref d), (1, .int (nI (sm (fun b => ρ (bi b 1)) (b + 1)))), (2, .int (nI (b + 1)))] ⟨rfl, by rw [e]; rfl, rfl, trivial⟩ ?_
      exact ih (m - 1) (by omega) (b + 1) (by omega) (by omega)
  refine x_iconst (v := nI 0) dX1_sumOfCharges_0 (by decide) ?_
  refine x_istore_n dX1_sumOfCharges_1 (by decide) ?_
  refine x_iconst (v := nI 0) dX1_sumOfCharges_2 (by decide) ?_
  refine x_istore_n dX1_sumOfCharges_3 (by decide) ?_
  refine x_ls [(0, .ref d), (1, .int (nI 0)), (2, .int (nI 0))] ⟨rfl, rfl, rfl, trivial⟩ ?_
  exact loop _ 0 rfl (Nat.zero_le _)

theorem s_isOut {G : GT} {C : AH} {Q : QT} {X : XT} {d : Nat} {ρ : Rw} {b : Int32} (hO : GO G) (hS : SkD C d) (hV : VaD (gI C) d ρ) (hW : Wf ρ) (h1 : ∀ j, j < ρ 1 → b = nI j → Q (some (.int (nI (ρ (bi j 6))))) C) (h0 : (∀ j, j < ρ 1 → b ≠ nI j) → Q (some (.int 0)) C) : Mt G M_X1_isOut [.ref d, .int b] C Q X := by
  refine Mt_of (by decide) (Nat.le_of_ble_eq_true rfl) ?_
  obtain ⟨s0, s1, s2, s3, v4, v5, v6, v7, v8, v9, v10⟩ := SkD_f hS hV
  obtain ⟨hK, -, -, -, -, k1, n1, k2, n2, k3, n3, k4, n4, hbus⟩ := id hS
  obtain ⟨w1, w2, w7, w8, w9, w10, w11, w11', w12, wB, wP⟩ := id hW
  have vb := hV.2.2.2.2.2.2.2.2.1
  refine x_aload_n dX1_isOut_0 rfl ?_
  refine x_iload_n dX1_isOut_1 rfl ?_
  refine x_callV (As := [_]) 3 hO dX1_isOut_2 o_X1_busAt v_X1_busAt l_X1_82 ⟨by decide, by decide⟩ (by assumption) ⟨by decide, by decide⟩ rfl ⟨by decide, by decide⟩ rfl rfl (Nat.le_of_ble_eq_true rfl) (s_busAt hO hS hV hW (fun j hj hb9 => ?_) (fun hn => ?_))
  · dsimp only [Option.toList, List.cons_append, List.nil_append]
    obtain ⟨b0, b0', b1, b2, b2', b3, b4, b34, b6⟩ := wB j hj
    have kb := (hbus j (by omega)).2
    refine x_astore_n dX1_isOut_5 (by decide) ?_
    refine x_aload_n dX1_isOut_6 rfl ?_
    refine x_ifnullR dX1_isOut_7 ?_
    refine x_aload_n dX1_isOut_10 rfl ?_
    refine x_get 2 hO dX1_isOut_11 f_X1_71 (by assumption) ⟨by decide, by decide⟩ (v := .int (nI (ρ (bi j 6)))) (congrArg Value.int (vb j hj 6 (by decide))) ?_
    refine x_if_eq (tgt := 21) dX1_isOut_14 (by decide) (fun c14 => ?_) (fun c14 => ?_)
    · refine x_iconst (v := nI 0) dX1_isOut_21 (by decide) ?_
      refine x_iret dX1_isOut_22 rfl (by first | rfl | assumption) ?_
      first
        | exact h0 hn
        | (simp (disch := omega) only [nI_z] at c14
           have q := h1 j hj hb9
           first | rw [show ρ (bi j 6) = 0 by omega] at q | rw [show ρ (bi j 6) = 1 by omega] at q
           exact q)
    · refine x_iconst (v := nI 1) dX1_isOut_17 (by decide) ?_
      refine x_goto (tgt := 22) dX1_isOut_18 (by decide) ?_
      refine x_iret dX1_isOut_22 rfl (by first | rfl | assumption) ?_
      first
        | exact h0 hn
        | (simp (disch := omega) only [nI_z] at c14
           have q := h1 j hj hb9
           first | rw [show ρ (bi j 6) = 0 by omega] at q | rw [show ρ (bi j 6) = 1 by omega] at q
           exact q)
  · dsimp only [Option.toList, List.cons_append, List.nil_append]
    refine x_astore_nZ dX1_isOut_5 (by decide) ?_
    refine x_aload_nZ dX1_isOut_6 rfl ?_
    refine x_ifnullZ (tgt := 21) dX1_isOut_7 (by decide) ?_
    refine x_iconst (v := nI 0) dX1_isOut_21 (by decide) ?_
    refine x_iret dX1_isOut_22 rfl (by first | rfl | assumption) ?_
    first
      | exact h0 hn
      | (simp (disch := omega) only [nI_z] at c14
         have q := h1 j hj hb9
         first | rw [show ρ (bi j 6) = 0 by omega] at q | rw [show ρ (bi j 6) = 1 by omega] at q
         exact q)
theorem s_hasCharge {G : GT} {C : AH} {Q : QT} {X : XT} {d : Nat} {ρ : Rw} {b : Int32} {v : Nat} (hO : GO G) (hS : SkD C d) (hV : VaD (gI C) d ρ) (hW : Wf ρ) (hv : v < 1000000) (hq : ∀ r : Int32, (∀ j, j < ρ 1 → b = nI j → r = if v ≤ ρ (bi j 1) then 1 else 0) → ((∀ j, j < ρ 1 → b ≠ nI j) → r = 0) → Q (some (.int r)) C) : Mt G M_X1_hasCharge [.ref d, .int b, .int (nI v)] C Q X := by
  refine Mt_of (by decide) (Nat.le_of_ble_eq_true rfl) ?_
  obtain ⟨s0, s1, s2, s3, v4, v5, v6, v7, v8, v9, v10⟩ := SkD_f hS hV
  obtain ⟨hK, -, -, -, -, k1, n1, k2, n2, k3, n3, k4, n4, hbus⟩ := id hS
  obtain ⟨w1, w2, w7, w8, w9, w10, w11, w11', w12, wB, wP⟩ := id hW
  have vb := hV.2.2.2.2.2.2.2.2.1
  refine x_aload_n dX1_hasCharge_0 rfl ?_
  refine x_iload_n dX1_hasCharge_1 rfl ?_
  refine x_callV (As := [_]) 3 hO dX1_hasCharge_2 o_X1_busAt v_X1_busAt l_X1_82 ⟨by decide, by decide⟩ (by assumption) ⟨by decide, by decide⟩ rfl ⟨by decide, by decide⟩ rfl rfl (Nat.le_of_ble_eq_true rfl) (s_busAt hO hS hV hW (fun j hj hb9 => ?_) (fun hn => ?_))
  · dsimp only [Option.toList, List.cons_append, List.nil_append]
    obtain ⟨b0, b0', b1, b2, b2', b3, b4, b34, b6⟩ := wB j hj
    have kb := (hbus j (by omega)).2
    refine x_astore_n dX1_hasCharge_5 (by decide) ?_
    refine x_aload_n dX1_hasCharge_6 rfl ?_
    refine x_ifnullR dX1_hasCharge_7 ?_
    refine x_aload_n dX1_hasCharge_10 rfl ?_
    refine x_get 2 hO dX1_hasCharge_11 f_X1_79 (by assumption) ⟨by decide, by decide⟩ (v := .int (nI (ρ (bi j 1)))) (congrArg Value.int (vb j hj 1 (by decide))) ?_
    refine x_iload_n dX1_hasCharge_14 rfl ?_
    refine x_icmp_lt (tgt := 22) dX1_hasCharge_15 (by decide) (fun c15 => ?_) (fun c15 => ?_)
    · refine x_iconst (v := nI 0) dX1_hasCharge_22 (by decide) ?_
      refine x_iret dX1_hasCharge_23 rfl (by first | rfl | assumption) ?_
      first
        | exact hq _ (fun j hj e => absurd e (hn j hj)) (fun _ => rfl)
        | (simp (disch := omega) only [nI_ltI] at c15
           refine hq _ (fun j9 hj9 e9 => ?_) (fun hn => absurd hb9 (hn j hj))
           have : j9 = j := (nI_eq (by omega) (by omega)).mp (e9.symm.trans hb9)
           subst this
           first | (rw [if_pos (by omega)]; rfl) | (rw [if_neg (by omega)]; rfl))
    · refine x_iconst (v := nI 1) dX1_hasCharge_18 (by decide) ?_
      refine x_goto (tgt := 23) dX1_hasCharge_19 (by decide) ?_
      refine x_iret dX1_hasCharge_23 rfl (by first | rfl | assumption) ?_
      first
        | exact hq _ (fun j hj e => absurd e (hn j hj)) (fun _ => rfl)
        | (simp (disch := omega) only [nI_ltI] at c15
           refine hq _ (fun j9 hj9 e9 => ?_) (fun hn => absurd hb9 (hn j hj))
           have : j9 = j := (nI_eq (by omega) (by omega)).mp (e9.symm.trans hb9)
           subst this
           first | (rw [if_pos (by omega)]; rfl) | (rw [if_neg (by omega)]; rfl))
  · dsimp only [Option.toList, List.cons_append, List.nil_append]
    refine x_astore_nZ dX1_hasCharge_5 (by decide) ?_
    refine x_aload_nZ dX1_hasCharge_6 rfl ?_
    refine x_ifnullZ (tgt := 22) dX1_hasCharge_7 (by decide) ?_
    refine x_iconst (v := nI 0) dX1_hasCharge_22 (by decide) ?_
    refine x_iret dX1_hasCharge_23 rfl (by first | rfl | assumption) ?_
    first
      | exact hq _ (fun j hj e => absurd e (hn j hj)) (fun _ => rfl)
      | (simp (disch := omega) only [nI_ltI] at c15
         refine hq _ (fun j9 hj9 e9 => ?_) (fun hn => absurd hb9 (hn j hj))
         have : j9 = j := (nI_eq (by omega) (by omega)).mp (e9.symm.trans hb9)
         subst this
         first | (rw [if_pos (by omega)]; rfl) | (rw [if_neg (by omega)]; rfl))
theorem s_isMissedNow {G : GT} {C : AH} {Q : QT} {X : XT} {d : Nat} {ρ : Rw} {j9 : Nat} (hO : GO G) (hS : SkD C d) (hV : VaD (gI C) d ρ) (hW : Wf ρ) (hb : ρ 0 < 1000000) (hj9 : j9 < ρ 1) (hq : ∀ r : Int32, r = (if (ρ (bi j9 6) = 0 ∧ ρ (bi j9 3) = ρ 0 % 24) ∧ ρ (bi j9 1) < ρ (bi j9 2) then 1 else 0) → Q (some (.int r)) C) : Mt G M_X1_isMissedNow [.ref d, .int (nI j9)] C Q X := by
  refine Mt_of (by decide) (Nat.le_of_ble_eq_true rfl) ?_
  obtain ⟨s0, s1, s2, s3, v4, v5, v6, v7, v8, v9, v10⟩ := SkD_f hS hV
  obtain ⟨hK, -, -, -, -, k1, n1, k2, n2, k3, n3, k4, n4, hbus⟩ := id hS
  obtain ⟨w1, w2, w7, w8, w9, w10, w11, w11', w12, wB, wP⟩ := id hW
  have vb := hV.2.2.2.2.2.2.2.2.1
  refine x_aload_n dX1_isMissedNow_0 rfl ?_
  refine x_iload_n dX1_isMissedNow_1 rfl ?_
  refine x_callV (As := [_]) 3 hO dX1_isMissedNow_2 o_X1_busAt v_X1_busAt l_X1_82 ⟨by decide, by decide⟩ (by assumption) ⟨by decide, by decide⟩ rfl ⟨by decide, by decide⟩ rfl rfl (Nat.le_of_ble_eq_true rfl) (s_busAt hO hS hV hW (fun j hj hb9 => ?_) (fun hn => ?_))
  · dsimp only [Option.toList, List.cons_append, List.nil_append]
    have e9 : j9 = j := (nI_eq (by omega) (by omega)).mp hb9
    subst e9
    obtain ⟨b0, b0', b1, b2, b2', b3, b4, b34, b6⟩ := wB j9 hj9
    have kb := (hbus j9 (by omega)).2
    refine x_astore_n dX1_isMissedNow_5 (by decide) ?_
    refine x_aload_n dX1_isMissedNow_6 rfl ?_
    refine x_ifnullR dX1_isMissedNow_7 ?_
    refine x_aload_n dX1_isMissedNow_10 rfl ?_
    refine x_aload_n dX1_isMissedNow_11 rfl ?_
    refine x_callV (As := [_]) 3 hO dX1_isMissedNow_12 o_X1_isDue v_X1_isDue l_X1_99 ⟨by decide, by decide⟩ (by assumption) ⟨by decide, by decide⟩ rfl ⟨by decide, by decide⟩ rfl rfl (Nat.le_of_ble_eq_true rfl) (s_isDue hO hS hV hW hb hj (fun r12 hr12 => ?_))
    dsimp only [Option.toList, List.cons_append, List.nil_append]
    refine x_if_eq (tgt := 29) dX1_isMissedNow_15 (by decide) (fun c15 => ?_) (fun c15 => ?_)
    · have p12 := (ite01 hr12).1 c15
      refine x_iconst (v := nI 0) dX1_isMissedNow_29 (by decide) ?_
      refine x_iret dX1_isMissedNow_30 rfl (by first | rfl | assumption) ?_
      try rw [vb j9 hj9 6 (by decide), vb j9 hj9 1 (by decide), vb j9 hj9 2 (by decide)] at p19
      try simp (disch := omega) only [nI_z, nI_ltI] at p19
      exact hq _ (by first | (rw [if_pos (by omega)]; rfl) | (rw [if_neg (by omega)]; rfl))
    · have p12 := (ite01 hr12).2 c15
      refine x_aload_n dX1_isMissedNow_18 rfl ?_
      refine x_callV (As := []) 2 hO dX1_isMissedNow_19 o_X0_isLow v_X0_isLow l_X1_75 ⟨by decide, by decide⟩ (by assumption) ⟨by decide, by decide⟩ rfl ⟨by decide, by decide⟩ rfl rfl (Nat.le_of_ble_eq_true rfl) (s_X0_isLow hO kb (fun r19 hr19 => ?_))
      dsimp only [Option.toList, List.cons_append, List.nil_append]
      refine x_if_eq (tgt := 29) dX1_isMissedNow_22 (by decide) (fun c22 => ?_) (fun c22 => ?_)
      · have p19 := (ite01 hr19).1 c22
        refine x_iconst (v := nI 0) dX1_isMissedNow_29 (by decide) ?_
        refine x_iret dX1_isMissedNow_30 rfl (by first | rfl | assumption) ?_
        try rw [vb j9 hj9 6 (by decide), vb j9 hj9 1 (by decide), vb j9 hj9 2 (by decide)] at p19
        try simp (disch := omega) only [nI_z, nI_ltI] at p19
        exact hq _ (by first | (rw [if_pos (by omega)]; rfl) | (rw [if_neg (by omega)]; rfl))
      · have p19 := (ite01 hr19).2 c22
        refine x_iconst (v := nI 1) dX1_isMissedNow_25 (by decide) ?_
        refine x_goto (tgt := 30) dX1_isMissedNow_26 (by decide) ?_
        refine x_iret dX1_isMissedNow_30 rfl (by first | rfl | assumption) ?_
        try rw [vb j9 hj9 6 (by decide), vb j9 hj9 1 (by decide), vb j9 hj9 2 (by decide)] at p19
        try simp (disch := omega) only [nI_z, nI_ltI] at p19
        exact hq _ (by first | (rw [if_pos (by omega)]; rfl) | (rw [if_neg (by omega)]; rfl))
  · exact absurd rfl (hn j9 hj9)
