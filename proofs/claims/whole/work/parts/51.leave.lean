/-! the reference: buses come back and leave *)-/
theorem cb1_e1 {ρ : Rw} {b : Nat} (h : ρ (bi b 4) = ρ 0 % 24) : cb1 b ρ = uN ρ (bi b 6) 0 := if_pos h
theorem cb1_e2 {ρ : Rw} {b : Nat} (h : ¬ ρ (bi b 4) = ρ 0 % 24) : cb1 b ρ = ρ := if_neg h
theorem cb_it {ρ : Rw} {b : Nat} (h : Wf ρ) (hb : b ≤ ρ 1) : Wf (itB cb1 b ρ) ∧ itB cb1 b ρ 1 = ρ 1 ∧ itB cb1 b ρ 0 = ρ 0 := by
  induction b with
  | zero => exact ⟨h, rfl, rfl⟩
  | succ b ih =>
    obtain ⟨i1, i2, i3⟩ := ih (by omega)
    refine ⟨Wf_cb1 (by omega) i1, ?_, ?_⟩
    · show cb1 b _ 1 = _
      rw [cb1_o (by simp only [bi]; omega), i2]
    · show cb1 b _ 0 = _
      rw [cb1_o (by simp only [bi]; omega), i3]
theorem lv_it {ρ : Rw} {b : Nat} (h : Wf ρ) (hb : b ≤ ρ 1) : Wf (itB lv1 b ρ) ∧ itB lv1 b ρ 1 = ρ 1 ∧ itB lv1 b ρ 0 = ρ 0 ∧ ∀ c, b ≤ c → ∀ w, w < 7 → itB lv1 b ρ (bi c w) = ρ (bi c w) := by
  induction b with
  | zero => exact ⟨h, rfl, rfl, fun _ _ _ _ => rfl⟩
  | succ b ih =>
    obtain ⟨i1, i2, i3, i4⟩ := ih (by omega)
    refine ⟨Wf_lv1 (by omega) i1, ?_, ?_, fun c hc w hw => ?_⟩
    · show lv1 b _ 1 = _
      rw [lv1_o (by simp only [tch, bi]; omega), i2]
    · show lv1 b _ 0 = _
      rw [lv1_o (by simp only [tch, bi]; omega), i3]
    · show lv1 b _ _ = _
      rw [lv1_o (by simp only [tch, bi]; omega), i4 c (by omega) w hw]
def szW (ρ : Rw) (b : Nat) : Nat := if 10 < ρ (bi b 0) then ρ (bi b 0) - 1 else 10
def wearS (b : Nat) (ρ : Rw) : Rw :=
  if ρ 11 ≤ ρ (bi b 5) + wrn ρ b then
    uN (uN (uN (uN ρ (bi b 5) (ρ (bi b 5) + wrn ρ b)) (bi b 5) (ρ (bi b 5) + wrn ρ b - ρ 11)) (bi b 0) (szW ρ b)) (bi b 1) (if szW ρ b < ρ (bi b 1) then szW ρ b else ρ (bi b 1))
  else uN ρ (bi b 5) (ρ (bi b 5) + wrn ρ b)
theorem goes_w {ρ : Rw} {b : Nat} : wearS b (uN (uN (uN ρ 6 (ρ 6 + 1)) (bi b 6) 1) (bi b 1) (ρ (bi b 1) - ρ (bi b 2))) = goes b ρ := by
  have e5 : uN (uN (uN ρ 6 (ρ 6 + 1)) (bi b 6) 1) (bi b 1) (ρ (bi b 1) - ρ (bi b 2)) (bi b 5) = ρ (bi b 5) := by rw [uN_n (by (try simp only [bi]); omega), uN_n (by (try simp only [bi]); omega), uN_n (by (try simp only [bi]); omega)]
  have e0 : uN (uN (uN ρ 6 (ρ 6 + 1)) (bi b 6) 1) (bi b 1) (ρ (bi b 1) - ρ (bi b 2)) (bi b 0) = ρ (bi b 0) := by rw [uN_n (by (try simp only [bi]); omega), uN_n (by (try simp only [bi]); omega), uN_n (by (try simp only [bi]); omega)]
  have e2 : uN (uN (uN ρ 6 (ρ 6 + 1)) (bi b 6) 1) (bi b 1) (ρ (bi b 1) - ρ (bi b 2)) (bi b 2) = ρ (bi b 2) := by rw [uN_n (by (try simp only [bi]); omega), uN_n (by (try simp only [bi]); omega), uN_n (by (try simp only [bi]); omega)]
  have e11 : uN (uN (uN ρ 6 (ρ 6 + 1)) (bi b 6) 1) (bi b 1) (ρ (bi b 1) - ρ (bi b 2)) 11 = ρ 11 := by rw [uN_n (by (try simp only [bi]); omega), uN_n (by (try simp only [bi]); omega), uN_n (by (try simp only [bi]); omega)]
  have e1 : uN (uN (uN ρ 6 (ρ 6 + 1)) (bi b 6) 1) (bi b 1) (ρ (bi b 1) - ρ (bi b 2)) (bi b 1) = ρ (bi b 1) - ρ (bi b 2) := uN_s
  unfold wearS szW goes wrn
  rw [e5, e0, e2, e11, e1]
  by_cases h : ρ 11 ≤ ρ (bi b 5) + (if 80 * ρ (bi b 0) ≤ 100 * ρ (bi b 2) then 3 else if 50 * ρ (bi b 0) ≤ 100 * ρ (bi b 2) then 2 else 1)
  · rw [if_pos h, if_pos h]
    funext j
    by_cases j1 : j = bi b 1
    · subst j1; rw [uN_s, uN_s]
    · rw [uN_n j1, uN_n j1]
      by_cases j0 : j = bi b 0
      · subst j0; rw [uN_s, uN_s]
      · rw [uN_n j0, uN_n j0]
        by_cases j5 : j = bi b 5
        · subst j5; rw [uN_s, uN_s]
        · rw [uN_n j5, uN_n j5, uN_n j5, uN_n j1]
  · rw [if_neg h, if_neg h]
    funext j
    by_cases j1 : j = bi b 1
    · subst j1; rw [uN_n (by simp only [bi]; omega), uN_s, uN_s]
    · rw [uN_n j1]
      by_cases j5 : j = bi b 5
      · subst j5; rw [uN_s, uN_s]
      · rw [uN_n j5, uN_n j5, uN_n j1]
theorem r_comeBack {G : GT} {C : AH} {Q : QT} {X : XT} {a : Nat} {ρ : Rw} (hO : GO G) (hA : RowS C a) (hV : Vr (gI C) a ρ) (hW : Wf ρ) (h0 : ρ 0 < 1000000) (hq : ∀ f : Nat → Nat → Int32, Vr f a (back ρ) → (∀ b : Nat, b ≠ a → f b = gI C b) → Q none (wI C f)) : Mt G M_X5_comeBack [.ref a] C Q X := by
  refine Mt_of (by decide) (Nat.le_of_ble_eq_true rfl) ?_
  have w1 : ρ 1 ≤ 8 := hW.1
  have loop : ∀ (m9 i : Nat) (f : Nat → Nat → Int32), ρ 1 - i = m9 → i ≤ ρ 1 → Vr f a (itB cb1 i ρ) → (∀ b : Nat, b ≠ a → f b = gI C b) → Ex G M_X5_comeBack Q X (mC M_X5_comeBack) (mS M_X5_comeBack) 2 [(0, .ref a), (1, .int (nI i))] [] (wI C f) := by
    intro m9
    induction m9 using Nat.strongRecOn with
    | _ m9 ih =>
    intro i f hm9 hi hVf hf
    obtain ⟨hWs, e1, e0⟩ := cb_it (b := i) hW hi
    refine x_iload_n dX5_comeBack_2 rfl ?_
    refine x_aload_n dX5_comeBack_3 rfl ?_
    refine x_iconst (v := nI 1) dX5_comeBack_4 (by decide) ?_
    refine x_row _ hO dX5_comeBack_5 hA hVf rfl (by omega) ?_
    refine x_icmp_ge (tgt := 61) dX5_comeBack_6 (by decide) (fun c6 => ?_) (fun c6 => ?_)
    · simp (disch := omega) only [nI_leI] at c6
      refine x_ret dX5_comeBack_61 rfl ?_
      have : i = ρ 1 := by omega
      subst this
      exact hq f hVf hf
    · simp (disch := omega) only [nI_leI] at c6
      have hi8 : i < ρ 1 := by omega
      obtain ⟨b0, b0', b1, b2, b2', b3, b4, b34, b6⟩ := hWs.2.2.2.2.2.2.2.2.2.1 i (by omega)
      refine x_aload_n dX5_comeBack_9 rfl ?_
      refine x_iload_n dX5_comeBack_10 rfl ?_
      refine x_iconst (v := nI 4) dX5_comeBack_11 (by decide) ?_
      refine x_callS (As := [_, _]) hO dX5_comeBack_12 o_X5_busAt s_X5_busAt l_X5_67 ⟨by decide, by decide⟩ ⟨by decide, by decide⟩ rfl rfl (Nat.le_of_ble_eq_true rfl) (r_busAt hO ?_)
      dsimp only [Option.toList, List.cons_append, List.nil_append]
      refine x_row _ hO dX5_comeBack_15 hA hVf rfl (by simp only [bi]; omega) ?_
      refine x_aload_n dX5_comeBack_16 rfl ?_
      refine x_iconst (v := nI 0) dX5_comeBack_17 (by decide) ?_
      refine x_row _ hO dX5_comeBack_18 hA hVf rfl (by omega) ?_
      refine x_bipush (v := nI 24) dX5_comeBack_19 (by decide) ?_
      refine x_irem dX5_comeBack_21 (by decide) ?_
      rw [pk_rem (by omega) (by decide) (by decide)]
      refine x_icmp_ne (tgt := 29) dX5_comeBack_22 (by decide) (fun c22 => ?_) (fun c22 => ?_)
      · simp (disch := omega) only [nI_eq] at c22
        refine x_iconst (v := nI 0) dX5_comeBack_29 (by decide) ?_
        refine x_istore_n dX5_comeBack_30 (by decide) ?_
        refine x_aload_n dX5_comeBack_31 rfl ?_
        refine x_iload_n dX5_comeBack_32 rfl ?_
        refine x_bipush (v := nI 6) dX5_comeBack_33 (by decide) ?_
        refine x_callS (As := [_, _]) hO dX5_comeBack_35 o_X5_busAt s_X5_busAt l_X5_67 ⟨by decide, by decide⟩ ⟨by decide, by decide⟩ rfl rfl (Nat.le_of_ble_eq_true rfl) (r_busAt hO ?_)
        dsimp only [Option.toList, List.cons_append, List.nil_append]
        refine x_iload_n dX5_comeBack_38 rfl ?_
        refine x_if_eq (tgt := 46) dX5_comeBack_39 (by decide) (fun c39 => ?_) (fun c39 => ?_)
        · refine x_aload_n dX5_comeBack_46 rfl ?_
          refine x_iload_n dX5_comeBack_47 rfl ?_
          refine x_bipush (v := nI 6) dX5_comeBack_48 (by decide) ?_
          refine x_callS (As := [_, _]) hO dX5_comeBack_50 o_X5_busAt s_X5_busAt l_X5_67 ⟨by decide, by decide⟩ ⟨by decide, by decide⟩ rfl rfl (Nat.le_of_ble_eq_true rfl) (r_busAt hO ?_)
          dsimp only [Option.toList, List.cons_append, List.nil_append]
          refine x_row _ hO dX5_comeBack_53 hA hVf rfl (by simp only [bi]; omega) ?_
          refine x_rowS (bi i 6) _ hO dX5_comeBack_54 hA hVf rfl (by simp only [bi]; omega) rfl (fun f54 v54 r54 => ?_)
          refine x_iinc (v := nI 1) dX5_comeBack_55 rfl (by decide) (by decide) ?_
          refine x_goto (tgt := 2) dX5_comeBack_58 (by decide) ?_
          first
            | exact absurd c39 (by decide)
            | exact absurd rfl c39
            | (refine x_ls [(0, .ref a), (1, .int (nI (i + 1)))] ⟨rfl, (by rw [← nI_add]; rfl), trivial⟩ ?_
               refine ih (m9 - 1) (by omega) (i + 1) f54 (by omega) (by omega) ?_ (fun b hb => (r54 b hb).trans (hf b hb))
               rw [show itB cb1 (i + 1) ρ = cb1 i (itB cb1 i ρ) from rfl]
               first
                 | (rw [cb1_e1 c22]; exact v54)
                 | (rw [cb1_e2 c22]; rw [uN_id] at v54; exact v54))
        · refine x_iconst (v := nI 0) dX5_comeBack_42 (by decide) ?_
          refine x_goto (tgt := 54) dX5_comeBack_43 (by decide) ?_
          refine x_rowS (bi i 6) _ hO dX5_comeBack_54 hA hVf rfl (by simp only [bi]; omega) rfl (fun f54 v54 r54 => ?_)
          refine x_iinc (v := nI 1) dX5_comeBack_55 rfl (by decide) (by decide) ?_
          refine x_goto (tgt := 2) dX5_comeBack_58 (by decide) ?_
          first
            | exact absurd c39 (by decide)
            | exact absurd rfl c39
            | (refine x_ls [(0, .ref a), (1, .int (nI (i + 1)))] ⟨rfl, (by rw [← nI_add]; rfl), trivial⟩ ?_
               refine ih (m9 - 1) (by omega) (i + 1) f54 (by omega) (by omega) ?_ (fun b hb => (r54 b hb).trans (hf b hb))
               rw [show itB cb1 (i + 1) ρ = cb1 i (itB cb1 i ρ) from rfl]
               first
                 | (rw [cb1_e1 c22]; exact v54)
                 | (rw [cb1_e2 c22]; rw [uN_id] at v54; exact v54))
      · simp (disch := omega) only [nI_eq] at c22
        refine x_iconst (v := nI 1) dX5_comeBack_25 (by decide) ?_
        refine x_goto (tgt := 30) dX5_comeBack_26 (by decide) ?_
        refine x_istore_n dX5_comeBack_30 (by decide) ?_
        refine x_aload_n dX5_comeBack_31 rfl ?_
        refine x_iload_n dX5_comeBack_32 rfl ?_
        refine x_bipush (v := nI 6) dX5_comeBack_33 (by decide) ?_
        refine x_callS (As := [_, _]) hO dX5_comeBack_35 o_X5_busAt s_X5_busAt l_X5_67 ⟨by decide, by decide⟩ ⟨by decide, by decide⟩ rfl rfl (Nat.le_of_ble_eq_true rfl) (r_busAt hO ?_)
        dsimp only [Option.toList, List.cons_append, List.nil_append]
        refine x_iload_n dX5_comeBack_38 rfl ?_
        refine x_if_eq (tgt := 46) dX5_comeBack_39 (by decide) (fun c39 => ?_) (fun c39 => ?_)
        · refine x_aload_n dX5_comeBack_46 rfl ?_
          refine x_iload_n dX5_comeBack_47 rfl ?_
          refine x_bipush (v := nI 6) dX5_comeBack_48 (by decide) ?_
          refine x_callS (As := [_, _]) hO dX5_comeBack_50 o_X5_busAt s_X5_busAt l_X5_67 ⟨by decide, by decide⟩ ⟨by decide, by decide⟩ rfl rfl (Nat.le_of_ble_eq_true rfl) (r_busAt hO ?_)
          dsimp only [Option.toList, List.cons_append, List.nil_append]
          refine x_row _ hO dX5_comeBack_53 hA hVf rfl (by simp only [bi]; omega) ?_
          refine x_rowS (bi i 6) _ hO dX5_comeBack_54 hA hVf rfl (by simp only [bi]; omega) rfl (fun f54 v54 r54 => ?_)
          refine x_iinc (v := nI 1) dX5_comeBack_55 rfl (by decide) (by decide) ?_
          refine x_goto (tgt := 2) dX5_comeBack_58 (by decide) ?_
          first
            | exact absurd c39 (by decide)
            | exact absurd rfl c39
            | (refine x_ls [(0, .ref a), (1, .int (nI (i + 1)))] ⟨rfl, (by rw [← nI_add]; rfl), trivial⟩ ?_
               refine ih (m9 - 1) (by omega) (i + 1) f54 (by omega) (by omega) ?_ (fun b hb => (r54 b hb).trans (hf b hb))
               rw [show itB cb1 (i + 1) ρ = cb1 i (itB cb1 i ρ) from rfl]
               first
                 | (rw [cb1_e1 c22]; exact v54)
                 | (rw [cb1_e2 c22]; rw [uN_id] at v54; exact v54))
        · refine x_iconst (v := nI 0) dX5_comeBack_42 (by decide) ?_
          refine x_goto (tgt := 54) dX5_comeBack_43 (by decide) ?_
          refine x_rowS (bi i 6) _ hO dX5_comeBack_54 hA hVf rfl (by simp only [bi]; omega) rfl (fun f54 v54 r54 => ?_)
          refine x_iinc (v := nI 1) dX5_comeBack_55 rfl (by decide) (by decide) ?_
          refine x_goto (tgt := 2) dX5_comeBack_58 (by decide) ?_
          first
            | exact absurd c39 (by decide)
            | exact absurd rfl c39
            | (refine x_ls [(0, .ref a), (1, .int (nI (i + 1)))] ⟨rfl, (by rw [← nI_add]; rfl), trivial⟩ ?_
               refine ih (m9 - 1) (by omega) (i + 1) f54 (by omega) (by omega) ?_ (fun b hb => (r54 b hb).trans (hf b hb))
               rw [show itB cb1 (i + 1) ρ = cb1 i (itB cb1 i ρ) from rfl]
               first
                 | (rw [cb1_e1 c22]; exact v54)
                 | (rw [cb1_e2 c22]; rw [uN_id] at v54; exact v54))
  refine x_iconst (v := nI 0) dX5_comeBack_0 (by decide) ?_
  refine x_istore_n dX5_comeBack_1 (by decide) ?_
  refine x_ls [(0, .ref a), (1, .int (nI 0))] ⟨rfl, rfl, trivial⟩ ?_
  exact loop _ 0 (gI C) rfl (Nat.zero_le _) hV fun _ _ => rfl

theorem r_wear {G : GT} {C : AH} {Q : QT} {X : XT} {a : Nat} {ρ : Rw} {b : Nat} (hO : GO G) (hA : RowS C a) (hV : Vr (gI C) a ρ) (hb : b < 8) (b0 : 10 ≤ ρ (bi b 0)) (b0' : ρ (bi b 0) ≤ 400) (b2 : ρ (bi b 2) ≤ 400) (b1 : ρ (bi b 1) ≤ 400) (b5 : ρ (bi b 5) < 2000000) (b11 : ρ 11 ≤ 99) (hq : ∀ f : Nat → Nat → Int32, Vr f a (wearS b ρ) → (∀ b : Nat, b ≠ a → f b = gI C b) → Q none (wI C f)) : Mt G M_X5_wear [.ref a, .int (nI b)] C Q X := by
  refine Mt_of (by decide) (Nat.le_of_ble_eq_true rfl) ?_
  have hw3 : wrn ρ b ≤ 3 := wrn_le
  refine x_bipush (v := nI 100) dX5_wear_0 (by decide) ?_
  refine x_aload_n dX5_wear_2 rfl ?_
  refine x_iload_n dX5_wear_3 rfl ?_
  refine x_iconst (v := nI 2) dX5_wear_4 (by decide) ?_
  refine x_callS (As := [_, _]) hO dX5_wear_5 o_X5_busAt s_X5_busAt l_X5_67 ⟨by decide, by decide⟩ ⟨by decide, by decide⟩ rfl rfl (Nat.le_of_ble_eq_true rfl) (r_busAt hO ?_)
  dsimp only [Option.toList, List.cons_append, List.nil_append]
  refine x_row _ hO dX5_wear_8 hA hV rfl (by simp only [bi]; omega) ?_
  refine x_imul dX5_wear_9 ?_
  rw [pk_mul]
  refine x_istore_n dX5_wear_10 (by decide) ?_
  refine x_aload_n dX5_wear_11 rfl ?_
  refine x_iload_n dX5_wear_12 rfl ?_
  refine x_iconst (v := nI 0) dX5_wear_13 (by decide) ?_
  refine x_callS (As := [_, _]) hO dX5_wear_14 o_X5_busAt s_X5_busAt l_X5_67 ⟨by decide, by decide⟩ ⟨by decide, by decide⟩ rfl rfl (Nat.le_of_ble_eq_true rfl) (r_busAt hO ?_)
  dsimp only [Option.toList, List.cons_append, List.nil_append]
  refine x_row _ hO dX5_wear_17 hA hV rfl (by simp only [bi]; omega) ?_
  refine x_istore_n dX5_wear_18 (by decide) ?_
  refine x_aload_n dX5_wear_19 rfl ?_
  refine x_iload_n dX5_wear_20 rfl ?_
  refine x_iconst (v := nI 5) dX5_wear_21 (by decide) ?_
  refine x_callS (As := [_, _]) hO dX5_wear_22 o_X5_busAt s_X5_busAt l_X5_67 ⟨by decide, by decide⟩ ⟨by decide, by decide⟩ rfl rfl (Nat.le_of_ble_eq_true rfl) (r_busAt hO ?_)
  dsimp only [Option.toList, List.cons_append, List.nil_append]
  refine x_dup2 dX5_wear_25 rfl rfl ?_
  refine x_row _ hO dX5_wear_26 hA hV rfl (by simp only [bi]; omega) ?_
  refine x_iload_n dX5_wear_27 rfl ?_
  refine x_bipush (v := nI 80) dX5_wear_28 (by decide) ?_
  refine x_iload_n dX5_wear_30 rfl ?_
  refine x_imul dX5_wear_31 ?_
  rw [pk_mul]
  refine x_icmp_lt (tgt := 39) dX5_wear_32 (by decide) (fun c32 => ?_) (fun c32 => ?_)
  · simp (disch := omega) only [nI_ltI] at c32
    refine x_iload_n dX5_wear_39 rfl ?_
    refine x_bipush (v := nI 50) dX5_wear_40 (by decide) ?_
    refine x_iload_n dX5_wear_42 rfl ?_
    refine x_imul dX5_wear_43 ?_
    rw [pk_mul]
    refine x_icmp_lt (tgt := 51) dX5_wear_44 (by decide) (fun c44 => ?_) (fun c44 => ?_)
    · simp (disch := omega) only [nI_ltI] at c44
      refine x_iconst (v := nI 1) dX5_wear_51 (by decide) ?_
      try rw [show nI 1 = nI (wrn ρ b) from congrArg nI (by unfold wrn; rw [if_neg (by omega), if_neg (by omega)])]
      refine x_iadd dX5_wear_52 ?_
      refine x_rowS (bi b 5) _ hO dX5_wear_53 hA hV rfl (by simp only [bi]; omega) (nI_add _ _) (fun f53 v53 r53 => ?_)
      refine x_aload_n dX5_wear_54 rfl ?_
      refine x_iload_n dX5_wear_55 rfl ?_
      refine x_iconst (v := nI 5) dX5_wear_56 (by decide) ?_
      refine x_callS (As := [_, _]) hO dX5_wear_57 o_X5_busAt s_X5_busAt l_X5_67 ⟨by decide, by decide⟩ ⟨by decide, by decide⟩ rfl rfl (Nat.le_of_ble_eq_true rfl) (r_busAt hO ?_)
      dsimp only [Option.toList, List.cons_append, List.nil_append]
      refine x_row _ hO dX5_wear_60 hA v53 rfl (by simp only [bi]; omega) ?_
      rw [uN_s]
      refine x_aload_n dX5_wear_61 rfl ?_
      refine x_bipush (v := nI 11) dX5_wear_62 (by decide) ?_
      refine x_row _ hO dX5_wear_64 hA v53 rfl (by omega) ?_
      rw [uN_n (show 11 ≠ bi b 5 by simp only [bi]; omega)]
      refine x_icmp_lt (tgt := 134) dX5_wear_65 (by decide) (fun c65 => ?_) (fun c65 => ?_)
      · simp (disch := omega) only [nI_ltI] at c65
        refine x_ret dX5_wear_134 rfl ?_
        first
          | (refine hq _ ?_ r53
             unfold wearS
             rw [if_neg (by omega)]
             exact v53)
          | (refine hq _ ?_ (fun b hb => ?_)
             · unfold wearS
               rw [if_pos (by omega)]
               first
                 | (rw [if_pos (by omega)]; exact v133)
                 | (rw [if_neg (by omega)]; exact v133)
             · exact (r133 b hb).trans ((r104 b hb).trans ((r81 b hb).trans (r53 b hb))))
      · simp (disch := omega) only [nI_ltI] at c65
        refine x_aload_n dX5_wear_68 rfl ?_
        refine x_iload_n dX5_wear_69 rfl ?_
        refine x_iconst (v := nI 5) dX5_wear_70 (by decide) ?_
        refine x_callS (As := [_, _]) hO dX5_wear_71 o_X5_busAt s_X5_busAt l_X5_67 ⟨by decide, by decide⟩ ⟨by decide, by decide⟩ rfl rfl (Nat.le_of_ble_eq_true rfl) (r_busAt hO ?_)
        dsimp only [Option.toList, List.cons_append, List.nil_append]
        refine x_dup2 dX5_wear_74 rfl rfl ?_
        refine x_row _ hO dX5_wear_75 hA v53 rfl (by simp only [bi]; omega) ?_
        rw [uN_s]
        refine x_aload_n dX5_wear_76 rfl ?_
        refine x_bipush (v := nI 11) dX5_wear_77 (by decide) ?_
        refine x_row _ hO dX5_wear_79 hA v53 rfl (by omega) ?_
        rw [uN_n (show 11 ≠ bi b 5 by simp only [bi]; omega)]
        refine x_isub dX5_wear_80 ?_
        refine x_rowS (bi b 5) _ hO dX5_wear_81 hA v53 rfl (by simp only [bi]; omega) (pk_sub (by omega)) (fun f81 v81 r81 => ?_)
        refine x_iload_n dX5_wear_82 rfl ?_
        refine x_bipush (v := nI 10) dX5_wear_83 (by decide) ?_
        refine x_icmp_le (tgt := 94) dX5_wear_85 (by decide) (fun c85 => ?_) (fun c85 => ?_)
        · simp (disch := omega) only [nI_leI] at c85
          refine x_bipush (v := nI 10) dX5_wear_94 (by decide) ?_
          try rw [show nI 10 = nI (szW ρ b) from congrArg nI (if_neg (by omega)).symm]
          have hsz : szW ρ b ≤ 400 := by unfold szW; split <;> omega
          refine x_istore_n dX5_wear_96 (by decide) ?_
          refine x_aload_n dX5_wear_97 rfl ?_
          refine x_iload_n dX5_wear_98 rfl ?_
          refine x_iconst (v := nI 0) dX5_wear_99 (by decide) ?_
          refine x_callS (As := [_, _]) hO dX5_wear_100 o_X5_busAt s_X5_busAt l_X5_67 ⟨by decide, by decide⟩ ⟨by decide, by decide⟩ rfl rfl (Nat.le_of_ble_eq_true rfl) (r_busAt hO ?_)
          dsimp only [Option.toList, List.cons_append, List.nil_append]
          refine x_iload_n dX5_wear_103 rfl ?_
          refine x_rowS (bi b 0) _ hO dX5_wear_104 hA v81 rfl (by simp only [bi]; omega) rfl (fun f104 v104 r104 => ?_)
          refine x_aload_n dX5_wear_105 rfl ?_
          refine x_iload_n dX5_wear_106 rfl ?_
          refine x_iconst (v := nI 1) dX5_wear_107 (by decide) ?_
          refine x_callS (As := [_, _]) hO dX5_wear_108 o_X5_busAt s_X5_busAt l_X5_67 ⟨by decide, by decide⟩ ⟨by decide, by decide⟩ rfl rfl (Nat.le_of_ble_eq_true rfl) (r_busAt hO ?_)
          dsimp only [Option.toList, List.cons_append, List.nil_append]
          refine x_aload_n dX5_wear_111 rfl ?_
          refine x_iload_n dX5_wear_112 rfl ?_
          refine x_iconst (v := nI 1) dX5_wear_113 (by decide) ?_
          refine x_callS (As := [_, _]) hO dX5_wear_114 o_X5_busAt s_X5_busAt l_X5_67 ⟨by decide, by decide⟩ ⟨by decide, by decide⟩ rfl rfl (Nat.le_of_ble_eq_true rfl) (r_busAt hO ?_)
          dsimp only [Option.toList, List.cons_append, List.nil_append]
          refine x_row _ hO dX5_wear_117 hA v104 rfl (by simp only [bi]; omega) ?_
          rw [uN_n (by (try simp only [bi]); omega), uN_n (by (try simp only [bi]); omega), uN_n (by (try simp only [bi]); omega)]
          refine x_iload_n dX5_wear_118 rfl ?_
          refine x_icmp_le (tgt := 126) dX5_wear_119 (by decide) (fun c119 => ?_) (fun c119 => ?_)
          · simp (disch := omega) only [nI_leI] at c119
            refine x_aload_n dX5_wear_126 rfl ?_
            refine x_iload_n dX5_wear_127 rfl ?_
            refine x_iconst (v := nI 1) dX5_wear_128 (by decide) ?_
            refine x_callS (As := [_, _]) hO dX5_wear_129 o_X5_busAt s_X5_busAt l_X5_67 ⟨by decide, by decide⟩ ⟨by decide, by decide⟩ rfl rfl (Nat.le_of_ble_eq_true rfl) (r_busAt hO ?_)
            dsimp only [Option.toList, List.cons_append, List.nil_append]
            refine x_row _ hO dX5_wear_132 hA v104 rfl (by simp only [bi]; omega) ?_
            try rw [uN_n (by (try simp only [bi]); omega), uN_n (by (try simp only [bi]); omega), uN_n (by (try simp only [bi]); omega)]
            refine x_rowS (bi b 1) _ hO dX5_wear_133 hA v104 rfl (by simp only [bi]; omega) rfl (fun f133 v133 r133 => ?_)
            refine x_ret dX5_wear_134 rfl ?_
            first
              | (refine hq _ ?_ r53
                 unfold wearS
                 rw [if_neg (by omega)]
                 exact v53)
              | (refine hq _ ?_ (fun b hb => ?_)
                 · unfold wearS
                   rw [if_pos (by omega)]
                   first
                     | (rw [if_pos (by omega)]; exact v133)
                     | (rw [if_neg (by omega)]; exact v133)
                 · exact (r133 b hb).trans ((r104 b hb).trans ((r81 b hb).trans (r53 b hb))))
          · simp (disch := omega) only [nI_leI] at c119
            refine x_iload_n dX5_wear_122 rfl ?_
            refine x_goto (tgt := 133) dX5_wear_123 (by decide) ?_
            try rw [uN_n (by (try simp only [bi]); omega), uN_n (by (try simp only [bi]); omega), uN_n (by (try simp only [bi]); omega)]
            refine x_rowS (bi b 1) _ hO dX5_wear_133 hA v104 rfl (by simp only [bi]; omega) rfl (fun f133 v133 r133 => ?_)
            refine x_ret dX5_wear_134 rfl ?_
            first
              | (refine hq _ ?_ r53
                 unfold wearS
                 rw [if_neg (by omega)]
                 exact v53)
              | (refine hq _ ?_ (fun b hb => ?_)
                 · unfold wearS
                   rw [if_pos (by omega)]
                   first
                     | (rw [if_pos (by omega)]; exact v133)
                     | (rw [if_neg (by omega)]; exact v133)
                 · exact (r133 b hb).trans ((r104 b hb).trans ((r81 b hb).trans (r53 b hb))))
        · simp (disch := omega) only [nI_leI] at c85
          refine x_iload_n dX5_wear_88 rfl ?_
          refine x_iconst (v := nI 1) dX5_wear_89 (by decide) ?_
          refine x_isub dX5_wear_90 ?_
          rw [pk_sub (by omega), show nI (ρ (bi b 0) - 1) = nI (szW ρ b) from congrArg nI (if_pos (by omega)).symm]
          refine x_goto (tgt := 96) dX5_wear_91 (by decide) ?_
          try rw [show nI 10 = nI (szW ρ b) from congrArg nI (if_neg (by omega)).symm]
          have hsz : szW ρ b ≤ 400 := by unfold szW; split <;> omega
          refine x_istore_n dX5_wear_96 (by decide) ?_
          refine x_aload_n dX5_wear_97 rfl ?_
          refine x_iload_n dX5_wear_98 rfl ?_
          refine x_iconst (v := nI 0) dX5_wear_99 (by decide) ?_
          refine x_callS (As := [_, _]) hO dX5_wear_100 o_X5_busAt s_X5_busAt l_X5_67 ⟨by decide, by decide⟩ ⟨by decide, by decide⟩ rfl rfl (Nat.le_of_ble_eq_true rfl) (r_busAt hO ?_)
          dsimp only [Option.toList, List.cons_append, List.nil_append]
          refine x_iload_n dX5_wear_103 rfl ?_
          refine x_rowS (bi b 0) _ hO dX5_wear_104 hA v81 rfl (by simp only [bi]; omega) rfl (fun f104 v104 r104 => ?_)
          refine x_aload_n dX5_wear_105 rfl ?_
          refine x_iload_n dX5_wear_106 rfl ?_
          refine x_iconst (v := nI 1) dX5_wear_107 (by decide) ?_
          refine x_callS (As := [_, _]) hO dX5_wear_108 o_X5_busAt s_X5_busAt l_X5_67 ⟨by decide, by decide⟩ ⟨by decide, by decide⟩ rfl rfl (Nat.le_of_ble_eq_true rfl) (r_busAt hO ?_)
          dsimp only [Option.toList, List.cons_append, List.nil_append]
          refine x_aload_n dX5_wear_111 rfl ?_
          refine x_iload_n dX5_wear_112 rfl ?_
          refine x_iconst (v := nI 1) dX5_wear_113 (by decide) ?_
          refine x_callS (As := [_, _]) hO dX5_wear_114 o_X5_busAt s_X5_busAt l_X5_67 ⟨by decide, by decide⟩ ⟨by decide, by decide⟩ rfl rfl (Nat.le_of_ble_eq_true rfl) (r_busAt hO ?_)
          dsimp only [Option.toList, List.cons_append, List.nil_append]
          refine x_row _ hO dX5_wear_117 hA v104 rfl (by simp only [bi]; omega) ?_
          rw [uN_n (by (try simp only [bi]); omega), uN_n (by (try simp only [bi]); omega), uN_n (by (try simp only [bi]); omega)]
          refine x_iload_n dX5_wear_118 rfl ?_
          refine x_icmp_le (tgt := 126) dX5_wear_119 (by decide) (fun c119 => ?_) (fun c119 => ?_)
          · simp (disch := omega) only [nI_leI] at c119
            refine x_aload_n dX5_wear_126 rfl ?_
            refine x_iload_n dX5_wear_127 rfl ?_
            refine x_iconst (v := nI 1) dX5_wear_128 (by decide) ?_
            refine x_callS (As := [_, _]) hO dX5_wear_129 o_X5_busAt s_X5_busAt l_X5_67 ⟨by decide, by decide⟩ ⟨by decide, by decide⟩ rfl rfl (Nat.le_of_ble_eq_true rfl) (r_busAt hO ?_)
            dsimp only [Option.toList, List.cons_append, List.nil_append]
            refine x_row _ hO dX5_wear_132 hA v104 rfl (by simp only [bi]; omega) ?_
            try rw [uN_n (by (try simp only [bi]); omega), uN_n (by (try simp only [bi]); omega), uN_n (by (try simp only [bi]); omega)]
            refine x_rowS (bi b 1) _ hO dX5_wear_133 hA v104 rfl (by simp only [bi]; omega) rfl (fun f133 v133 r133 => ?_)
            refine x_ret dX5_wear_134 rfl ?_
            first
              | (refine hq _ ?_ r53
                 unfold wearS
                 rw [if_neg (by omega)]
                 exact v53)
              | (refine hq _ ?_ (fun b hb => ?_)
                 · unfold wearS
                   rw [if_pos (by omega)]
                   first
                     | (rw [if_pos (by omega)]; exact v133)
                     | (rw [if_neg (by omega)]; exact v133)
                 · exact (r133 b hb).trans ((r104 b hb).trans ((r81 b hb).trans (r53 b hb))))
          · simp (disch := omega) only [nI_leI] at c119
            refine x_iload_n dX5_wear_122 rfl ?_
            refine x_goto (tgt := 133) dX5_wear_123 (by decide) ?_
            try rw [uN_n (by (try simp only [bi]); omega), uN_n (by (try simp only [bi]); omega), uN_n (by (try simp only [bi]); omega)]
            refine x_rowS (bi b 1) _ hO dX5_wear_133 hA v104 rfl (by simp only [bi]; omega) rfl (fun f133 v133 r133 => ?_)
            refine x_ret dX5_wear_134 rfl ?_
            first
              | (refine hq _ ?_ r53
                 unfold wearS
                 rw [if_neg (by omega)]
                 exact v53)
              | (refine hq _ ?_ (fun b hb => ?_)
                 · unfold wearS
                   rw [if_pos (by omega)]
                   first
                     | (rw [if_pos (by omega)]; exact v133)
                     | (rw [if_neg (by omega)]; exact v133)
                 · exact (r133 b hb).trans ((r104 b hb).trans ((r81 b hb).trans (r53 b hb))))
    · simp (disch := omega) only [nI_ltI] at c44
      refine x_iconst (v := nI 2) dX5_wear_47 (by decide) ?_
      rw [show nI 2 = nI (wrn ρ b) from congrArg nI (by unfold wrn; rw [if_neg (by omega), if_pos (by omega)])]
      refine x_goto (tgt := 52) dX5_wear_48 (by decide) ?_
      try rw [show nI 1 = nI (wrn ρ b) from congrArg nI (by unfold wrn; rw [if_neg (by omega), if_neg (by omega)])]
      refine x_iadd dX5_wear_52 ?_
      refine x_rowS (bi b 5) _ hO dX5_wear_53 hA hV rfl (by simp only [bi]; omega) (nI_add _ _) (fun f53 v53 r53 => ?_)
      refine x_aload_n dX5_wear_54 rfl ?_
      refine x_iload_n dX5_wear_55 rfl ?_
      refine x_iconst (v := nI 5) dX5_wear_56 (by decide) ?_
      refine x_callS (As := [_, _]) hO dX5_wear_57 o_X5_busAt s_X5_busAt l_X5_67 ⟨by decide, by decide⟩ ⟨by decide, by decide⟩ rfl rfl (Nat.le_of_ble_eq_true rfl) (r_busAt hO ?_)
      dsimp only [Option.toList, List.cons_append, List.nil_append]
      refine x_row _ hO dX5_wear_60 hA v53 rfl (by simp only [bi]; omega) ?_
      rw [uN_s]
      refine x_aload_n dX5_wear_61 rfl ?_
      refine x_bipush (v := nI 11) dX5_wear_62 (by decide) ?_
      refine x_row _ hO dX5_wear_64 hA v53 rfl (by omega) ?_
      rw [uN_n (show 11 ≠ bi b 5 by simp only [bi]; omega)]
      refine x_icmp_lt (tgt := 134) dX5_wear_65 (by decide) (fun c65 => ?_) (fun c65 => ?_)
      · simp (disch := omega) only [nI_ltI] at c65
        refine x_ret dX5_wear_134 rfl ?_
        first
          | (refine hq _ ?_ r53
             unfold wearS
             rw [if_neg (by omega)]
             exact v53)
          | (refine hq _ ?_ (fun b hb => ?_)
             · unfold wearS
               rw [if_pos (by omega)]
               first
                 | (rw [if_pos (by omega)]; exact v133)
                 | (rw [if_neg (by omega)]; exact v133)
             · exact (r133 b hb).trans ((r104 b hb).trans ((r81 b hb).trans (r53 b hb))))
      · simp (disch := omega) only [nI_ltI] at c65
        refine x_aload_n dX5_wear_68 rfl ?_
        refine x_iload_n dX5_wear_69 rfl ?_
        refine x_iconst (v := nI 5) dX5_wear_70 (by decide) ?_
        refine x_callS (As := [_, _]) hO dX5_wear_71 o_X5_busAt s_X5_busAt l_X5_67 ⟨by decide, by decide⟩ ⟨by decide, by decide⟩ rfl rfl (Nat.le_of_ble_eq_true rfl) (r_busAt hO ?_)
        dsimp only [Option.toList, List.cons_append, List.nil_append]
        refine x_dup2 dX5_wear_74 rfl rfl ?_
        refine x_row _ hO dX5_wear_75 hA v53 rfl (by simp only [bi]; omega) ?_
        rw [uN_s]
        refine x_aload_n dX5_wear_76 rfl ?_
        refine x_bipush (v := nI 11) dX5_wear_77 (by decide) ?_
        refine x_row _ hO dX5_wear_79 hA v53 rfl (by omega) ?_
        rw [uN_n (show 11 ≠ bi b 5 by simp only [bi]; omega)]
        refine x_isub dX5_wear_80 ?_
        refine x_rowS (bi b 5) _ hO dX5_wear_81 hA v53 rfl (by simp only [bi]; omega) (pk_sub (by omega)) (fun f81 v81 r81 => ?_)
        refine x_iload_n dX5_wear_82 rfl ?_
        refine x_bipush (v := nI 10) dX5_wear_83 (by decide) ?_
        refine x_icmp_le (tgt := 94) dX5_wear_85 (by decide) (fun c85 => ?_) (fun c85 => ?_)
        · simp (disch := omega) only [nI_leI] at c85
          refine x_bipush (v := nI 10) dX5_wear_94 (by decide) ?_
          try rw [show nI 10 = nI (szW ρ b) from congrArg nI (if_neg (by omega)).symm]
          have hsz : szW ρ b ≤ 400 := by unfold szW; split <;> omega
          refine x_istore_n dX5_wear_96 (by decide) ?_
          refine x_aload_n dX5_wear_97 rfl ?_
          refine x_iload_n dX5_wear_98 rfl ?_
          refine x_iconst (v := nI 0) dX5_wear_99 (by decide) ?_
          refine x_callS (As := [_, _]) hO dX5_wear_100 o_X5_busAt s_X5_busAt l_X5_67 ⟨by decide, by decide⟩ ⟨by decide, by decide⟩ rfl rfl (Nat.le_of_ble_eq_true rfl) (r_busAt hO ?_)
          dsimp only [Option.toList, List.cons_append, List.nil_append]
          refine x_iload_n dX5_wear_103 rfl ?_
          refine x_rowS (bi b 0) _ hO dX5_wear_104 hA v81 rfl (by simp only [bi]; omega) rfl (fun f104 v104 r104 => ?_)
          refine x_aload_n dX5_wear_105 rfl ?_
          refine x_iload_n dX5_wear_106 rfl ?_
          refine x_iconst (v := nI 1) dX5_wear_107 (by decide) ?_
          refine x_callS (As := [_, _]) hO dX5_wear_108 o_X5_busAt s_X5_busAt l_X5_67 ⟨by decide, by decide⟩ ⟨by decide, by decide⟩ rfl rfl (Nat.le_of_ble_eq_true rfl) (r_busAt hO ?_)
          dsimp only [Option.toList, List.cons_append, List.nil_append]
          refine x_aload_n dX5_wear_111 rfl ?_
          refine x_iload_n dX5_wear_112 rfl ?_
          refine x_iconst (v := nI 1) dX5_wear_113 (by decide) ?_
          refine x_callS (As := [_, _]) hO dX5_wear_114 o_X5_busAt s_X5_busAt l_X5_67 ⟨by decide, by decide⟩ ⟨by decide, by decide⟩ rfl rfl (Nat.le_of_ble_eq_true rfl) (r_busAt hO ?_)
          dsimp only [Option.toList, List.cons_append, List.nil_append]
          refine x_row _ hO dX5_wear_117 hA v104 rfl (by simp only [bi]; omega) ?_
          rw [uN_n (by (try simp only [bi]); omega), uN_n (by (try simp only [bi]); omega), uN_n (by (try simp only [bi]); omega)]
          refine x_iload_n dX5_wear_118 rfl ?_
          refine x_icmp_le (tgt := 126) dX5_wear_119 (by decide) (fun c119 => ?_) (fun c119 => ?_)
          · simp (disch := omega) only [nI_leI] at c119
            refine x_aload_n dX5_wear_126 rfl ?_
            refine x_iload_n dX5_wear_127 rfl ?_
            refine x_iconst (v := nI 1) dX5_wear_128 (by decide) ?_
            refine x_callS (As := [_, _]) hO dX5_wear_129 o_X5_busAt s_X5_busAt l_X5_67 ⟨by decide, by decide⟩ ⟨by decide, by decide⟩ rfl rfl (Nat.le_of_ble_eq_true rfl) (r_busAt hO ?_)
            dsimp only [Option.toList, List.cons_append, List.nil_append]
            refine x_row _ hO dX5_wear_132 hA v104 rfl (by simp only [bi]; omega) ?_
            try rw [uN_n (by (try simp only [bi]); omega), uN_n (by (try simp only [bi]); omega), uN_n (by (try simp only [bi]); omega)]
            refine x_rowS (bi b 1) _ hO dX5_wear_133 hA v104 rfl (by simp only [bi]; omega) rfl (fun f133 v133 r133 => ?_)
            refine x_ret dX5_wear_134 rfl ?_
            first
              | (refine hq _ ?_ r53
                 unfold wearS
                 rw [if_neg (by omega)]
                 exact v53)
              | (refine hq _ ?_ (fun b hb => ?_)
                 · unfold wearS
                   rw [if_pos (by omega)]
                   first
                     | (rw [if_pos (by omega)]; exact v133)
                     | (rw [if_neg (by omega)]; exact v133)
                 · exact (r133 b hb).trans ((r104 b hb).trans ((r81 b hb).trans (r53 b hb))))
          · simp (disch := omega) only [nI_leI] at c119
            refine x_iload_n dX5_wear_122 rfl ?_
            refine x_goto (tgt := 133) dX5_wear_123 (by decide) ?_
            try rw [uN_n (by (try simp only [bi]); omega), uN_n (by (try simp only [bi]); omega), uN_n (by (try simp only [bi]); omega)]
            refine x_rowS (bi b 1) _ hO dX5_wear_133 hA v104 rfl (by simp only [bi]; omega) rfl (fun f133 v133 r133 => ?_)
            refine x_ret dX5_wear_134 rfl ?_
            first
              | (refine hq _ ?_ r53
                 unfold wearS
                 rw [if_neg (by omega)]
                 exact v53)
              | (refine hq _ ?_ (fun b hb => ?_)
                 · unfold wearS
                   rw [if_pos (by omega)]
                   first
                     | (rw [if_pos (by omega)]; exact v133)
                     | (rw [if_neg (by omega)]; exact v133)
                 · exact (r133 b hb).trans ((r104 b hb).trans ((r81 b hb).trans (r53 b hb))))
        · simp (disch := omega) only [nI_leI] at c85
          refine x_iload_n dX5_wear_88 rfl ?_
          refine x_iconst (v := nI 1) dX5_wear_89 (by decide) ?_
          refine x_isub dX5_wear_90 ?_
          rw [pk_sub (by omega), show nI (ρ (bi b 0) - 1) = nI (szW ρ b) from congrArg nI (if_pos (by omega)).symm]
          refine x_goto (tgt := 96) dX5_wear_91 (by decide) ?_
          try rw [show nI 10 = nI (szW ρ b) from congrArg nI (if_neg (by omega)).symm]
          have hsz : szW ρ b ≤ 400 := by unfold szW; split <;> omega
          refine x_istore_n dX5_wear_96 (by decide) ?_
          refine x_aload_n dX5_wear_97 rfl ?_
          refine x_iload_n dX5_wear_98 rfl ?_
          refine x_iconst (v := nI 0) dX5_wear_99 (by decide) ?_
          refine x_callS (As := [_, _]) hO dX5_wear_100 o_X5_busAt s_X5_busAt l_X5_67 ⟨by decide, by decide⟩ ⟨by decide, by decide⟩ rfl rfl (Nat.le_of_ble_eq_true rfl) (r_busAt hO ?_)
          dsimp only [Option.toList, List.cons_append, List.nil_append]
          refine x_iload_n dX5_wear_103 rfl ?_
          refine x_rowS (bi b 0) _ hO dX5_wear_104 hA v81 rfl (by simp only [bi]; omega) rfl (fun f104 v104 r104 => ?_)
          refine x_aload_n dX5_wear_105 rfl ?_
          refine x_iload_n dX5_wear_106 rfl ?_
          refine x_iconst (v := nI 1) dX5_wear_107 (by decide) ?_
          refine x_callS (As := [_, _]) hO dX5_wear_108 o_X5_busAt s_X5_busAt l_X5_67 ⟨by decide, by decide⟩ ⟨by decide, by decide⟩ rfl rfl (Nat.le_of_ble_eq_true rfl) (r_busAt hO ?_)
          dsimp only [Option.toList, List.cons_append, List.nil_append]
          refine x_aload_n dX5_wear_111 rfl ?_
          refine x_iload_n dX5_wear_112 rfl ?_
          refine x_iconst (v := nI 1) dX5_wear_113 (by decide) ?_
          refine x_callS (As := [_, _]) hO dX5_wear_114 o_X5_busAt s_X5_busAt l_X5_67 ⟨by decide, by decide⟩ ⟨by decide, by decide⟩ rfl rfl (Nat.le_of_ble_eq_true rfl) (r_busAt hO ?_)
          dsimp only [Option.toList, List.cons_append, List.nil_append]
          refine x_row _ hO dX5_wear_117 hA v104 rfl (by simp only [bi]; omega) ?_
          rw [uN_n (by (try simp only [bi]); omega), uN_n (by (try simp only [bi]); omega), uN_n (by (try simp only [bi]); omega)]
          refine x_iload_n dX5_wear_118 rfl ?_
          refine x_icmp_le (tgt := 126) dX5_wear_119 (by decide) (fun c119 => ?_) (fun c119 => ?_)
          · simp (disch := omega) only [nI_leI] at c119
            refine x_aload_n dX5_wear_126 rfl ?_
            refine x_iload_n dX5_wear_127 rfl ?_
            refine x_iconst (v := nI 1) dX5_wear_128 (by decide) ?_
            refine x_callS (As := [_, _]) hO dX5_wear_129 o_X5_busAt s_X5_busAt l_X5_67 ⟨by decide, by decide⟩ ⟨by decide, by decide⟩ rfl rfl (Nat.le_of_ble_eq_true rfl) (r_busAt hO ?_)
            dsimp only [Option.toList, List.cons_append, List.nil_append]
            refine x_row _ hO dX5_wear_132 hA v104 rfl (by simp only [bi]; omega) ?_
            try rw [uN_n (by (try simp only [bi]); omega), uN_n (by (try simp only [bi]); omega), uN_n (by (try simp only [bi]); omega)]
            refine x_rowS (bi b 1) _ hO dX5_wear_133 hA v104 rfl (by simp only [bi]; omega) rfl (fun f133 v133 r133 => ?_)
            refine x_ret dX5_wear_134 rfl ?_
            first
              | (refine hq _ ?_ r53
                 unfold wearS
                 rw [if_neg (by omega)]
                 exact v53)
              | (refine hq _ ?_ (fun b hb => ?_)
                 · unfold wearS
                   rw [if_pos (by omega)]
                   first
                     | (rw [if_pos (by omega)]; exact v133)
                     | (rw [if_neg (by omega)]; exact v133)
                 · exact (r133 b hb).trans ((r104 b hb).trans ((r81 b hb).trans (r53 b hb))))
          · simp (disch := omega) only [nI_leI] at c119
            refine x_iload_n dX5_wear_122 rfl ?_
            refine x_goto (tgt := 133) dX5_wear_123 (by decide) ?_
            try rw [uN_n (by (try simp only [bi]); omega), uN_n (by (try simp only [bi]); omega), uN_n (by (try simp only [bi]); omega)]
            refine x_rowS (bi b 1) _ hO dX5_wear_133 hA v104 rfl (by simp only [bi]; omega) rfl (fun f133 v133 r133 => ?_)
            refine x_ret dX5_wear_134 rfl ?_
            first
              | (refine hq _ ?_ r53
                 unfold wearS
                 rw [if_neg (by omega)]
                 exact v53)
              | (refine hq _ ?_ (fun b hb => ?_)
                 · unfold wearS
                   rw [if_pos (by omega)]
                   first
                     | (rw [if_pos (by omega)]; exact v133)
                     | (rw [if_neg (by omega)]; exact v133)
                 · exact (r133 b hb).trans ((r104 b hb).trans ((r81 b hb).trans (r53 b hb))))
  · simp (disch := omega) only [nI_ltI] at c32
    refine x_iconst (v := nI 3) dX5_wear_35 (by decide) ?_
    rw [show nI 3 = nI (wrn ρ b) from congrArg nI (by unfold wrn; rw [if_pos (by omega)])]
    refine x_goto (tgt := 52) dX5_wear_36 (by decide) ?_
    try rw [show nI 1 = nI (wrn ρ b) from congrArg nI (by unfold wrn; rw [if_neg (by omega), if_neg (by omega)])]
    refine x_iadd dX5_wear_52 ?_
    refine x_rowS (bi b 5) _ hO dX5_wear_53 hA hV rfl (by simp only [bi]; omega) (nI_add _ _) (fun f53 v53 r53 => ?_)
    refine x_aload_n dX5_wear_54 rfl ?_
    refine x_iload_n dX5_wear_55 rfl ?_
    refine x_iconst (v := nI 5) dX5_wear_56 (by decide) ?_
    refine x_callS (As := [_, _]) hO dX5_wear_57 o_X5_busAt s_X5_busAt l_X5_67 ⟨by decide, by decide⟩ ⟨by decide, by decide⟩ rfl rfl (Nat.le_of_ble_eq_true rfl) (r_busAt hO ?_)
    dsimp only [Option.toList, List.cons_append, List.nil_append]
    refine x_row _ hO dX5_wear_60 hA v53 rfl (by simp only [bi]; omega) ?_
    rw [uN_s]
    refine x_aload_n dX5_wear_61 rfl ?_
    refine x_bipush (v := nI 11) dX5_wear_62 (by decide) ?_
    refine x_row _ hO dX5_wear_64 hA v53 rfl (by omega) ?_
    rw [uN_n (show 11 ≠ bi b 5 by simp only [bi]; omega)]
    refine x_icmp_lt (tgt := 134) dX5_wear_65 (by decide) (fun c65 => ?_) (fun c65 => ?_)
    · simp (disch := omega) only [nI_ltI] at c65
      refine x_ret dX5_wear_134 rfl ?_
      first
        | (refine hq _ ?_ r53
           unfold wearS
           rw [if_neg (by omega)]
           exact v53)
        | (refine hq _ ?_ (fun b hb => ?_)
           · unfold wearS
             rw [if_pos (by omega)]
             first
               | (rw [if_pos (by omega)]; exact v133)
               | (rw [if_neg (by omega)]; exact v133)
           · exact (r133 b hb).trans ((r104 b hb).trans ((r81 b hb).trans (r53 b hb))))
    · simp (disch := omega) only [nI_ltI] at c65
      refine x_aload_n dX5_wear_68 rfl ?_
      refine x_iload_n dX5_wear_69 rfl ?_
      refine x_iconst (v := nI 5) dX5_wear_70 (by decide) ?_
      refine x_callS (As := [_, _]) hO dX5_wear_71 o_X5_busAt s_X5_busAt l_X5_67 ⟨by decide, by decide⟩ ⟨by decide, by decide⟩ rfl rfl (Nat.le_of_ble_eq_true rfl) (r_busAt hO ?_)
      dsimp only [Option.toList, List.cons_append, List.nil_append]
      refine x_dup2 dX5_wear_74 rfl rfl ?_
      refine x_row _ hO dX5_wear_75 hA v53 rfl (by simp only [bi]; omega) ?_
      rw [uN_s]
      refine x_aload_n dX5_wear_76 rfl ?_
      refine x_bipush (v := nI 11) dX5_wear_77 (by decide) ?_
      refine x_row _ hO dX5_wear_79 hA v53 rfl (by omega) ?_
      rw [uN_n (show 11 ≠ bi b 5 by simp only [bi]; omega)]
      refine x_isub dX5_wear_80 ?_
      refine x_rowS (bi b 5) _ hO dX5_wear_81 hA v53 rfl (by simp only [bi]; omega) (pk_sub (by omega)) (fun f81 v81 r81 => ?_)
      refine x_iload_n dX5_wear_82 rfl ?_
      refine x_bipush (v := nI 10) dX5_wear_83 (by decide) ?_
      refine x_icmp_le (tgt := 94) dX5_wear_85 (by decide) (fun c85 => ?_) (fun c85 => ?_)
      · simp (disch := omega) only [nI_leI] at c85
        refine x_bipush (v := nI 10) dX5_wear_94 (by decide) ?_
        try rw [show nI 10 = nI (szW ρ b) from congrArg nI (if_neg (by omega)).symm]
        have hsz : szW ρ b ≤ 400 := by unfold szW; split <;> omega
        refine x_istore_n dX5_wear_96 (by decide) ?_
        refine x_aload_n dX5_wear_97 rfl ?_
        refine x_iload_n dX5_wear_98 rfl ?_
        refine x_iconst (v := nI 0) dX5_wear_99 (by decide) ?_
        refine x_callS (As := [_, _]) hO dX5_wear_100 o_X5_busAt s_X5_busAt l_X5_67 ⟨by decide, by decide⟩ ⟨by decide, by decide⟩ rfl rfl (Nat.le_of_ble_eq_true rfl) (r_busAt hO ?_)
        dsimp only [Option.toList, List.cons_append, List.nil_append]
        refine x_iload_n dX5_wear_103 rfl ?_
        refine x_rowS (bi b 0) _ hO dX5_wear_104 hA v81 rfl (by simp only [bi]; omega) rfl (fun f104 v104 r104 => ?_)
        refine x_aload_n dX5_wear_105 rfl ?_
        refine x_iload_n dX5_wear_106 rfl ?_
        refine x_iconst (v := nI 1) dX5_wear_107 (by decide) ?_
        refine x_callS (As := [_, _]) hO dX5_wear_108 o_X5_busAt s_X5_busAt l_X5_67 ⟨by decide, by decide⟩ ⟨by decide, by decide⟩ rfl rfl (Nat.le_of_ble_eq_true rfl) (r_busAt hO ?_)
        dsimp only [Option.toList, List.cons_append, List.nil_append]
        refine x_aload_n dX5_wear_111 rfl ?_
        refine x_iload_n dX5_wear_112 rfl ?_
        refine x_iconst (v := nI 1) dX5_wear_113 (by decide) ?_
        refine x_callS (As := [_, _]) hO dX5_wear_114 o_X5_busAt s_X5_busAt l_X5_67 ⟨by decide, by decide⟩ ⟨by decide, by decide⟩ rfl rfl (Nat.le_of_ble_eq_true rfl) (r_busAt hO ?_)
        dsimp only [Option.toList, List.cons_append, List.nil_append]
        refine x_row _ hO dX5_wear_117 hA v104 rfl (by simp only [bi]; omega) ?_
        rw [uN_n (by (try simp only [bi]); omega), uN_n (by (try simp only [bi]); omega), uN_n (by (try simp only [bi]); omega)]
        refine x_iload_n dX5_wear_118 rfl ?_
        refine x_icmp_le (tgt := 126) dX5_wear_119 (by decide) (fun c119 => ?_) (fun c119 => ?_)
        · simp (disch := omega) only [nI_leI] at c119
          refine x_aload_n dX5_wear_126 rfl ?_
          refine x_iload_n dX5_wear_127 rfl ?_
          refine x_iconst (v := nI 1) dX5_wear_128 (by decide) ?_
          refine x_callS (As := [_, _]) hO dX5_wear_129 o_X5_busAt s_X5_busAt l_X5_67 ⟨by decide, by decide⟩ ⟨by decide, by decide⟩ rfl rfl (Nat.le_of_ble_eq_true rfl) (r_busAt hO ?_)
          dsimp only [Option.toList, List.cons_append, List.nil_append]
          refine x_row _ hO dX5_wear_132 hA v104 rfl (by simp only [bi]; omega) ?_
          try rw [uN_n (by (try simp only [bi]); omega), uN_n (by (try simp only [bi]); omega), uN_n (by (try simp only [bi]); omega)]
          refine x_rowS (bi b 1) _ hO dX5_wear_133 hA v104 rfl (by simp only [bi]; omega) rfl (fun f133 v133 r133 => ?_)
          refine x_ret dX5_wear_134 rfl ?_
          first
            | (refine hq _ ?_ r53
               unfold wearS
               rw [if_neg (by omega)]
               exact v53)
            | (refine hq _ ?_ (fun b hb => ?_)
               · unfold wearS
                 rw [if_pos (by omega)]
                 first
                   | (rw [if_pos (by omega)]; exact v133)
                   | (rw [if_neg (by omega)]; exact v133)
               · exact (r133 b hb).trans ((r104 b hb).trans ((r81 b hb).trans (r53 b hb))))
        · simp (disch := omega) only [nI_leI] at c119
          refine x_iload_n dX5_wear_122 rfl ?_
          refine x_goto (tgt := 133) dX5_wear_123 (by decide) ?_
          try rw [uN_n (by (try simp only [bi]); omega), uN_n (by (try simp only [bi]); omega), uN_n (by (try simp only [bi]); omega)]
          refine x_rowS (bi b 1) _ hO dX5_wear_133 hA v104 rfl (by simp only [bi]; omega) rfl (fun f133 v133 r133 => ?_)
          refine x_ret dX5_wear_134 rfl ?_
          first
            | (refine hq _ ?_ r53
               unfold wearS
               rw [if_neg (by omega)]
               exact v53)
            | (refine hq _ ?_ (fun b hb => ?_)
               · unfold wearS
                 rw [if_pos (by omega)]
                 first
                   | (rw [if_pos (by omega)]; exact v133)
                   | (rw [if_neg (by omega)]; exact v133)
               · exact (r133 b hb).trans ((r104 b hb).trans ((r81 b hb).trans (r53 b hb))))
      · simp (disch := omega) only [nI_leI] at c85
        refine x_iload_n dX5_wear_88 rfl ?_
        refine x_iconst (v := nI 1) dX5_wear_89 (by decide) ?_
        refine x_isub dX5_wear_90 ?_
        rw [pk_sub (by omega), show nI (ρ (bi b 0) - 1) = nI (szW ρ b) from congrArg nI (if_pos (by omega)).symm]
        refine x_goto (tgt := 96) dX5_wear_91 (by decide) ?_
        try rw [show nI 10 = nI (szW ρ b) from congrArg nI (if_neg (by omega)).symm]
        have hsz : szW ρ b ≤ 400 := by unfold szW; split <;> omega
        refine x_istore_n dX5_wear_96 (by decide) ?_
        refine x_aload_n dX5_wear_97 rfl ?_
        refine x_iload_n dX5_wear_98 rfl ?_
        refine x_iconst (v := nI 0) dX5_wear_99 (by decide) ?_
        refine x_callS (As := [_, _]) hO dX5_wear_100 o_X5_busAt s_X5_busAt l_X5_67 ⟨by decide, by decide⟩ ⟨by decide, by decide⟩ rfl rfl (Nat.le_of_ble_eq_true rfl) (r_busAt hO ?_)
        dsimp only [Option.toList, List.cons_append, List.nil_append]
        refine x_iload_n dX5_wear_103 rfl ?_
        refine x_rowS (bi b 0) _ hO dX5_wear_104 hA v81 rfl (by simp only [bi]; omega) rfl (fun f104 v104 r104 => ?_)
        refine x_aload_n dX5_wear_105 rfl ?_
        refine x_iload_n dX5_wear_106 rfl ?_
        refine x_iconst (v := nI 1) dX5_wear_107 (by decide) ?_
        refine x_callS (As := [_, _]) hO dX5_wear_108 o_X5_busAt s_X5_busAt l_X5_67 ⟨by decide, by decide⟩ ⟨by decide, by decide⟩ rfl rfl (Nat.le_of_ble_eq_true rfl) (r_busAt hO ?_)
        dsimp only [Option.toList, List.cons_append, List.nil_append]
        refine x_aload_n dX5_wear_111 rfl ?_
        refine x_iload_n dX5_wear_112 rfl ?_
        refine x_iconst (v := nI 1) dX5_wear_113 (by decide) ?_
        refine x_callS (As := [_, _]) hO dX5_wear_114 o_X5_busAt s_X5_busAt l_X5_67 ⟨by decide, by decide⟩ ⟨by decide, by decide⟩ rfl rfl (Nat.le_of_ble_eq_true rfl) (r_busAt hO ?_)
        dsimp only [Option.toList, List.cons_append, List.nil_append]
        refine x_row _ hO dX5_wear_117 hA v104 rfl (by simp only [bi]; omega) ?_
        rw [uN_n (by (try simp only [bi]); omega), uN_n (by (try simp only [bi]); omega), uN_n (by (try simp only [bi]); omega)]
        refine x_iload_n dX5_wear_118 rfl ?_
        refine x_icmp_le (tgt := 126) dX5_wear_119 (by decide) (fun c119 => ?_) (fun c119 => ?_)
        · simp (disch := omega) only [nI_leI] at c119
          refine x_aload_n dX5_wear_126 rfl ?_
          refine x_iload_n dX5_wear_127 rfl ?_
          refine x_iconst (v := nI 1) dX5_wear_128 (by decide) ?_
          refine x_callS (As := [_, _]) hO dX5_wear_129 o_X5_busAt s_X5_busAt l_X5_67 ⟨by decide, by decide⟩ ⟨by decide, by decide⟩ rfl rfl (Nat.le_of_ble_eq_true rfl) (r_busAt hO ?_)
          dsimp only [Option.toList, List.cons_append, List.nil_append]
          refine x_row _ hO dX5_wear_132 hA v104 rfl (by simp only [bi]; omega) ?_
          try rw [uN_n (by (try simp only [bi]); omega), uN_n (by (try simp only [bi]); omega), uN_n (by (try simp only [bi]); omega)]
          refine x_rowS (bi b 1) _ hO dX5_wear_133 hA v104 rfl (by simp only [bi]; omega) rfl (fun f133 v133 r133 => ?_)
          refine x_ret dX5_wear_134 rfl ?_
          first
            | (refine hq _ ?_ r53
               unfold wearS
               rw [if_neg (by omega)]
               exact v53)
            | (refine hq _ ?_ (fun b hb => ?_)
               · unfold wearS
                 rw [if_pos (by omega)]
                 first
                   | (rw [if_pos (by omega)]; exact v133)
                   | (rw [if_neg (by omega)]; exact v133)
               · exact (r133 b hb).trans ((r104 b hb).trans ((r81 b hb).trans (r53 b hb))))
        · simp (disch := omega) only [nI_leI] at c119
          refine x_iload_n dX5_wear_122 rfl ?_
          refine x_goto (tgt := 133) dX5_wear_123 (by decide) ?_
          try rw [uN_n (by (try simp only [bi]); omega), uN_n (by (try simp only [bi]); omega), uN_n (by (try simp only [bi]); omega)]
          refine x_rowS (bi b 1) _ hO dX5_wear_133 hA v104 rfl (by simp only [bi]; omega) rfl (fun f133 v133 r133 => ?_)
          refine x_ret dX5_wear_134 rfl ?_
          first
            | (refine hq _ ?_ r53
               unfold wearS
               rw [if_neg (by omega)]
               exact v53)
            | (refine hq _ ?_ (fun b hb => ?_)
               · unfold wearS
                 rw [if_pos (by omega)]
                 first
                   | (rw [if_pos (by omega)]; exact v133)
                   | (rw [if_neg (by omega)]; exact v133)
               · exact (r133 b hb).trans ((r104 b hb).trans ((r81 b hb).trans (r53 b hb))))

theorem r_leave {G : GT} {C : AH} {Q : QT} {X : XT} {a : Nat} {ρ : Rw} (hO : GO G) (hA : RowS C a) (hV : Vr (gI C) a ρ) (hW : Wf ρ) (h0 : ρ 0 < 1000000) (hwr : ∀ b, b < ρ 1 → ρ (bi b 5) < 2000000) (hq : ∀ f : Nat → Nat → Int32, Vr f a (leave ρ) → (∀ b : Nat, b ≠ a → f b = gI C b) → Q none (wI C f)) : Mt G M_X5_leave [.ref a] C Q X := by
  refine Mt_of (by decide) (Nat.le_of_ble_eq_true rfl) ?_
  have w1 : ρ 1 ≤ 8 := hW.1
  have loop : ∀ (m9 i : Nat) (f : Nat → Nat → Int32), ρ 1 - i = m9 → i ≤ ρ 1 → Vr f a (itB lv1 i ρ) → (∀ b : Nat, b ≠ a → f b = gI C b) → Ex G M_X5_leave Q X (mC M_X5_leave) (mS M_X5_leave) 2 [(0, .ref a), (1, .int (nI i))] [] (wI C f) := by
    intro m9
    induction m9 using Nat.strongRecOn with
    | _ m9 ih =>
    intro i f hm9 hi hVf hf
    obtain ⟨hWs, e1, e0, es⟩ := lv_it (b := i) hW hi
    have w11 := hWs.2.2.2.2.2.2.2.1
    refine x_iload_n dX5_leave_2 rfl ?_
    refine x_aload_n dX5_leave_3 rfl ?_
    refine x_iconst (v := nI 1) dX5_leave_4 (by decide) ?_
    refine x_row _ hO dX5_leave_5 hA hVf rfl (by omega) ?_
    refine x_icmp_ge (tgt := 109) dX5_leave_6 (by decide) (fun c6 => ?_) (fun c6 => ?_)
    · simp (disch := omega) only [nI_leI] at c6
      refine x_ret dX5_leave_109 rfl ?_
      have : i = ρ 1 := by omega
      subst this
      exact hq f hVf hf
    · simp (disch := omega) only [nI_leI] at c6
      have hi8 : i < ρ 1 := by omega
      obtain ⟨b0, b0', b1, b2, b2', b3, b4, b34, b6⟩ := hWs.2.2.2.2.2.2.2.2.2.1 i (by omega)
      have hw5 := hwr i hi8
      rw [← es i (Nat.le_refl i) 5 (by decide)] at hw5
      refine x_aload_n dX5_leave_9 rfl ?_
      refine x_iload_n dX5_leave_10 rfl ?_
      refine x_bipush (v := nI 6) dX5_leave_11 (by decide) ?_
      refine x_callS (As := [_, _]) hO dX5_leave_13 o_X5_busAt s_X5_busAt l_X5_67 ⟨by decide, by decide⟩ ⟨by decide, by decide⟩ rfl rfl (Nat.le_of_ble_eq_true rfl) (r_busAt hO ?_)
      dsimp only [Option.toList, List.cons_append, List.nil_append]
      refine x_row _ hO dX5_leave_16 hA hVf rfl (by simp only [bi]; omega) ?_
      refine x_if_ne (tgt := 103) dX5_leave_17 (by decide) (fun c17 => ?_) (fun c17 => ?_)
      · simp (disch := omega) only [nI_z] at c17
        refine x_iinc (v := nI 1) dX5_leave_103 rfl (by decide) (by decide) ?_
        refine x_goto (tgt := 2) dX5_leave_106 (by decide) ?_
        first
          | (refine x_ls [(0, .ref a), (1, .int (nI (i + 1)))] ⟨rfl, (by rw [← nI_add]; rfl), trivial⟩ ?_
             refine ih (m9 - 1) (by omega) (i + 1) f60 (by omega) (by omega) ?_ (fun b hb => (r60 b hb).trans ((r50 b hb).trans (hf b hb)))
             rw [show itB lv1 (i + 1) ρ = lv1 i (itB lv1 i ρ) from rfl]
             rw [lv1_e1 ⟨c17, c33⟩, if_pos p38.2]
             exact v60
             done)
          | (refine x_ls [(0, .ref a), (1, .int (nI (i + 1)))] ⟨rfl, (by rw [← nI_add]; rfl), trivial⟩ ?_
             refine ih (m9 - 1) (by omega) (i + 1) f100 (by omega) (by omega) ?_ (fun b hb => (r100 b hb).trans ((r97 b hb).trans ((r80 b hb).trans ((r71 b hb).trans (hf b hb)))))
             rw [show itB lv1 (i + 1) ρ = lv1 i (itB lv1 i ρ) from rfl]
             rw [lv1_e1 ⟨c17, c33⟩, if_neg (fun q => p38 ⟨c17, q⟩), ← goes_w]
             exact v100
             done)
          | (refine x_ls [(0, .ref a), (1, .int (nI (i + 1)))] ⟨rfl, (by rw [← nI_add]; rfl), trivial⟩ ?_
             refine ih (m9 - 1) (by omega) (i + 1) f (by omega) (by omega) ?_ (fun b hb => hf b hb)
             rw [show itB lv1 (i + 1) ρ = lv1 i (itB lv1 i ρ) from rfl]
             rw [lv1_e0 (by omega)]
             exact hVf
             done)
      · simp (disch := omega) only [nI_z] at c17
        refine x_aload_n dX5_leave_20 rfl ?_
        refine x_iload_n dX5_leave_21 rfl ?_
        refine x_iconst (v := nI 3) dX5_leave_22 (by decide) ?_
        refine x_callS (As := [_, _]) hO dX5_leave_23 o_X5_busAt s_X5_busAt l_X5_67 ⟨by decide, by decide⟩ ⟨by decide, by decide⟩ rfl rfl (Nat.le_of_ble_eq_true rfl) (r_busAt hO ?_)
        dsimp only [Option.toList, List.cons_append, List.nil_append]
        refine x_row _ hO dX5_leave_26 hA hVf rfl (by simp only [bi]; omega) ?_
        refine x_aload_n dX5_leave_27 rfl ?_
        refine x_iconst (v := nI 0) dX5_leave_28 (by decide) ?_
        refine x_row _ hO dX5_leave_29 hA hVf rfl (by omega) ?_
        refine x_bipush (v := nI 24) dX5_leave_30 (by decide) ?_
        refine x_irem dX5_leave_32 (by decide) ?_
        rw [pk_rem (by omega) (by decide) (by decide)]
        refine x_icmp_ne (tgt := 103) dX5_leave_33 (by decide) (fun c33 => ?_) (fun c33 => ?_)
        · simp (disch := omega) only [nI_eq] at c33
          refine x_iinc (v := nI 1) dX5_leave_103 rfl (by decide) (by decide) ?_
          refine x_goto (tgt := 2) dX5_leave_106 (by decide) ?_
          first
            | (refine x_ls [(0, .ref a), (1, .int (nI (i + 1)))] ⟨rfl, (by rw [← nI_add]; rfl), trivial⟩ ?_
               refine ih (m9 - 1) (by omega) (i + 1) f60 (by omega) (by omega) ?_ (fun b hb => (r60 b hb).trans ((r50 b hb).trans (hf b hb)))
               rw [show itB lv1 (i + 1) ρ = lv1 i (itB lv1 i ρ) from rfl]
               rw [lv1_e1 ⟨c17, c33⟩, if_pos p38.2]
               exact v60
               done)
            | (refine x_ls [(0, .ref a), (1, .int (nI (i + 1)))] ⟨rfl, (by rw [← nI_add]; rfl), trivial⟩ ?_
               refine ih (m9 - 1) (by omega) (i + 1) f100 (by omega) (by omega) ?_ (fun b hb => (r100 b hb).trans ((r97 b hb).trans ((r80 b hb).trans ((r71 b hb).trans (hf b hb)))))
               rw [show itB lv1 (i + 1) ρ = lv1 i (itB lv1 i ρ) from rfl]
               rw [lv1_e1 ⟨c17, c33⟩, if_neg (fun q => p38 ⟨c17, q⟩), ← goes_w]
               exact v100
               done)
            | (refine x_ls [(0, .ref a), (1, .int (nI (i + 1)))] ⟨rfl, (by rw [← nI_add]; rfl), trivial⟩ ?_
               refine ih (m9 - 1) (by omega) (i + 1) f (by omega) (by omega) ?_ (fun b hb => hf b hb)
               rw [show itB lv1 (i + 1) ρ = lv1 i (itB lv1 i ρ) from rfl]
               rw [lv1_e0 (by omega)]
               exact hVf
               done)
        · simp (disch := omega) only [nI_eq] at c33
          refine x_aload_n dX5_leave_36 rfl ?_
          refine x_iload_n dX5_leave_37 rfl ?_
          refine x_callS (As := [_, _]) hO dX5_leave_38 o_X5_isLow s_X5_isLow l_X5_71 ⟨by decide, by decide⟩ ⟨by decide, by decide⟩ rfl rfl (Nat.le_of_ble_eq_true rfl) (r_isLow hO hA hVf (by omega) ⟨by omega, by omega, by omega⟩ (fun r38 hr38 => ?_))
          dsimp only [Option.toList, List.cons_append, List.nil_append]
          refine x_if_eq (tgt := 64) dX5_leave_41 (by decide) (fun c41 => ?_) (fun c41 => ?_)
          · have p38 := (ite01 hr38).1 c41
            refine x_aload_n dX5_leave_64 rfl ?_
            refine x_bipush (v := nI 6) dX5_leave_65 (by decide) ?_
            refine x_dup2 dX5_leave_67 rfl rfl ?_
            refine x_row _ hO dX5_leave_68 hA hVf rfl (by omega) ?_
            refine x_iconst (v := nI 1) dX5_leave_69 (by decide) ?_
            refine x_iadd dX5_leave_70 ?_
            refine x_rowS 6 _ hO dX5_leave_71 hA hVf rfl (by omega) (nI_add _ _) (fun f71 v71 r71 => ?_)
            refine x_aload_n dX5_leave_72 rfl ?_
            refine x_iload_n dX5_leave_73 rfl ?_
            refine x_bipush (v := nI 6) dX5_leave_74 (by decide) ?_
            refine x_callS (As := [_, _]) hO dX5_leave_76 o_X5_busAt s_X5_busAt l_X5_67 ⟨by decide, by decide⟩ ⟨by decide, by decide⟩ rfl rfl (Nat.le_of_ble_eq_true rfl) (r_busAt hO ?_)
            dsimp only [Option.toList, List.cons_append, List.nil_append]
            refine x_iconst (v := nI 1) dX5_leave_79 (by decide) ?_
            refine x_rowS (bi i 6) _ hO dX5_leave_80 hA v71 rfl (by simp only [bi]; omega) rfl (fun f80 v80 r80 => ?_)
            refine x_aload_n dX5_leave_81 rfl ?_
            refine x_iload_n dX5_leave_82 rfl ?_
            refine x_iconst (v := nI 1) dX5_leave_83 (by decide) ?_
            refine x_callS (As := [_, _]) hO dX5_leave_84 o_X5_busAt s_X5_busAt l_X5_67 ⟨by decide, by decide⟩ ⟨by decide, by decide⟩ rfl rfl (Nat.le_of_ble_eq_true rfl) (r_busAt hO ?_)
            dsimp only [Option.toList, List.cons_append, List.nil_append]
            refine x_dup2 dX5_leave_87 rfl rfl ?_
            refine x_row _ hO dX5_leave_88 hA v80 rfl (by simp only [bi]; omega) ?_
            rw [uN_n (by (try simp only [bi]); omega), uN_n (by (try simp only [bi]); omega)]
            refine x_aload_n dX5_leave_89 rfl ?_
            refine x_iload_n dX5_leave_90 rfl ?_
            refine x_iconst (v := nI 2) dX5_leave_91 (by decide) ?_
            refine x_callS (As := [_, _]) hO dX5_leave_92 o_X5_busAt s_X5_busAt l_X5_67 ⟨by decide, by decide⟩ ⟨by decide, by decide⟩ rfl rfl (Nat.le_of_ble_eq_true rfl) (r_busAt hO ?_)
            dsimp only [Option.toList, List.cons_append, List.nil_append]
            refine x_row _ hO dX5_leave_95 hA v80 rfl (by simp only [bi]; omega) ?_
            rw [uN_n (by (try simp only [bi]); omega), uN_n (by (try simp only [bi]); omega)]
            refine x_isub dX5_leave_96 ?_
            refine x_rowS (bi i 1) _ hO dX5_leave_97 hA v80 rfl (by simp only [bi]; omega) (pk_sub (by omega)) (fun f97 v97 r97 => ?_)
            refine x_aload_n dX5_leave_98 rfl ?_
            refine x_iload_n dX5_leave_99 rfl ?_
            refine x_callS (As := [_, _]) hO dX5_leave_100 o_X5_wear s_X5_wear l_X5_75 ⟨by decide, by decide⟩ ⟨by decide, by decide⟩ rfl rfl (Nat.le_of_ble_eq_true rfl) (r_wear hO hA v97 (by omega) ?_ ?_ ?_ ?_ ?_ ?_ (fun f100 v100 r100 => ?_))
            · rw [uN_n (by (try simp only [bi]); omega), uN_n (by (try simp only [bi]); omega), uN_n (by (try simp only [bi]); omega)]
              exact b0
            · rw [uN_n (by (try simp only [bi]); omega), uN_n (by (try simp only [bi]); omega), uN_n (by (try simp only [bi]); omega)]
              exact b0'
            · rw [uN_n (by (try simp only [bi]); omega), uN_n (by (try simp only [bi]); omega), uN_n (by (try simp only [bi]); omega)]
              exact b2'
            · rw [uN_s]
              omega
            · rw [uN_n (by (try simp only [bi]); omega), uN_n (by (try simp only [bi]); omega), uN_n (by (try simp only [bi]); omega)]
              exact hw5
            · rw [uN_n (by (try simp only [bi]); omega), uN_n (by (try simp only [bi]); omega), uN_n (by (try simp only [bi]); omega)]
              exact w11
            · dsimp only [Option.toList, List.cons_append, List.nil_append]
              refine x_iinc (v := nI 1) dX5_leave_103 rfl (by decide) (by decide) ?_
              refine x_goto (tgt := 2) dX5_leave_106 (by decide) ?_
              first
                | (refine x_ls [(0, .ref a), (1, .int (nI (i + 1)))] ⟨rfl, (by rw [← nI_add]; rfl), trivial⟩ ?_
                   refine ih (m9 - 1) (by omega) (i + 1) f60 (by omega) (by omega) ?_ (fun b hb => (r60 b hb).trans ((r50 b hb).trans (hf b hb)))
                   rw [show itB lv1 (i + 1) ρ = lv1 i (itB lv1 i ρ) from rfl]
                   rw [lv1_e1 ⟨c17, c33⟩, if_pos p38.2]
                   exact v60
                   done)
                | (refine x_ls [(0, .ref a), (1, .int (nI (i + 1)))] ⟨rfl, (by rw [← nI_add]; rfl), trivial⟩ ?_
                   refine ih (m9 - 1) (by omega) (i + 1) f100 (by omega) (by omega) ?_ (fun b hb => (r100 b hb).trans ((r97 b hb).trans ((r80 b hb).trans ((r71 b hb).trans (hf b hb)))))
                   rw [show itB lv1 (i + 1) ρ = lv1 i (itB lv1 i ρ) from rfl]
                   rw [lv1_e1 ⟨c17, c33⟩, if_neg (fun q => p38 ⟨c17, q⟩), ← goes_w]
                   exact v100
                   done)
                | (refine x_ls [(0, .ref a), (1, .int (nI (i + 1)))] ⟨rfl, (by rw [← nI_add]; rfl), trivial⟩ ?_
                   refine ih (m9 - 1) (by omega) (i + 1) f (by omega) (by omega) ?_ (fun b hb => hf b hb)
                   rw [show itB lv1 (i + 1) ρ = lv1 i (itB lv1 i ρ) from rfl]
                   rw [lv1_e0 (by omega)]
                   exact hVf
                   done)
          · have p38 := (ite01 hr38).2 c41
            refine x_aload_n dX5_leave_44 rfl ?_
            refine x_iconst (v := nI 5) dX5_leave_45 (by decide) ?_
            refine x_dup2 dX5_leave_46 rfl rfl ?_
            refine x_row _ hO dX5_leave_47 hA hVf rfl (by omega) ?_
            refine x_iconst (v := nI 1) dX5_leave_48 (by decide) ?_
            refine x_iadd dX5_leave_49 ?_
            refine x_rowS 5 _ hO dX5_leave_50 hA hVf rfl (by omega) (nI_add _ _) (fun f50 v50 r50 => ?_)
            refine x_aload_n dX5_leave_51 rfl ?_
            refine x_iconst (v := nI 3) dX5_leave_52 (by decide) ?_
            refine x_dup2 dX5_leave_53 rfl rfl ?_
            refine x_row _ hO dX5_leave_54 hA v50 rfl (by omega) ?_
            rw [uN_n (by (try simp only [bi]); omega)]
            refine x_aload_n dX5_leave_55 rfl ?_
            refine x_bipush (v := nI 10) dX5_leave_56 (by decide) ?_
            refine x_row _ hO dX5_leave_58 hA v50 rfl (by omega) ?_
            rw [uN_n (by (try simp only [bi]); omega)]
            refine x_iadd dX5_leave_59 ?_
            refine x_rowS 3 _ hO dX5_leave_60 hA v50 rfl (by omega) (nI_add _ _) (fun f60 v60 r60 => ?_)
            refine x_goto (tgt := 103) dX5_leave_61 (by decide) ?_
            refine x_iinc (v := nI 1) dX5_leave_103 rfl (by decide) (by decide) ?_
            refine x_goto (tgt := 2) dX5_leave_106 (by decide) ?_
            first
              | (refine x_ls [(0, .ref a), (1, .int (nI (i + 1)))] ⟨rfl, (by rw [← nI_add]; rfl), trivial⟩ ?_
                 refine ih (m9 - 1) (by omega) (i + 1) f60 (by omega) (by omega) ?_ (fun b hb => (r60 b hb).trans ((r50 b hb).trans (hf b hb)))
                 rw [show itB lv1 (i + 1) ρ = lv1 i (itB lv1 i ρ) from rfl]
                 rw [lv1_e1 ⟨c17, c33⟩, if_pos p38.2]
                 exact v60
                 done)
              | (refine x_ls [(0, .ref a), (1, .int (nI (i + 1)))] ⟨rfl, (by rw [← nI_add]; rfl), trivial⟩ ?_
                 refine ih (m9 - 1) (by omega) (i + 1) f100 (by omega) (by omega) ?_ (fun b hb => (r100 b hb).trans ((r97 b hb).trans ((r80 b hb).trans ((r71 b hb).trans (hf b hb)))))
                 rw [show itB lv1 (i + 1) ρ = lv1 i (itB lv1 i ρ) from rfl]
                 rw [lv1_e1 ⟨c17, c33⟩, if_neg (fun q => p38 ⟨c17, q⟩), ← goes_w]
                 exact v100
                 done)
              | (refine x_ls [(0, .ref a), (1, .int (nI (i + 1)))] ⟨rfl, (by rw [← nI_add]; rfl), trivial⟩ ?_
                 refine ih (m9 - 1) (by omega) (i + 1) f (by omega) (by omega) ?_ (fun b hb => hf b hb)
                 rw [show itB lv1 (i + 1) ρ = lv1 i (itB lv1 i ρ) from rfl]
                 rw [lv1_e0 (by omega)]
                 exact hVf
                 done)
  refine x_iconst (v := nI 0) dX5_leave_0 (by decide) ?_
  refine x_istore_n dX5_leave_1 (by decide) ?_
  refine x_ls [(0, .ref a), (1, .int (nI 0))] ⟨rfl, rfl, trivial⟩ ?_
  exact loop _ 0 (gI C) rfl (Nat.zero_le _) hV fun _ _ => rfl

