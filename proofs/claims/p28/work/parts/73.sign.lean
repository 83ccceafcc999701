/-! the class: signs *)-/
theorem j_init {G : GT} {C : AH} {Q : QT} {X : XT} {sa va : Nat → Nat} {h : Nat} (hO : GO G) (hX : GX G sa va) (hz : gz C = h + 1) (hK : gK C h = 1) (h0 : ∀ j, gI C h j = 0) (hq : ∀ C' : AH, gz C' = h + 2 → SbS C' h → SbV (gI C') h [] → Ag C C' h → Q none C') : Mt G M_J5_init_d00df [.ref h, .int (nI 16)] C Q X := by
  refine Mt_of (by decide) (Nat.le_of_ble_eq_true rfl) ?_
  refine x_aload_n dJ5_init_d00df_0 rfl ?_
  refine x_objI hO dJ5_init_d00df_1 l_J5_3 i_obj c_obj ⟨by decide, by decide⟩ (Nat.le_of_ble_eq_true rfl) ?_
  refine x_getsZ hO hX.2.2.2.2.2.2.1 dJ5_init_d00df_4 f_J5_18 ?_
  refine x_if_eq (tgt := 25) dJ5_init_d00df_7 (by decide) (fun c7 => ?_) (fun c7 => ?_)
  · exact absurd c7 (by decide)
  · refine x_aload_n dJ5_init_d00df_10 rfl ?_
    refine x_iload_n dJ5_init_d00df_11 rfl ?_
    refine x_newa 23 _ hO dJ5_init_d00df_12 ⟨by decide, by decide⟩ rfl ac_byte rfl (by decide) (by decide) (by decide) ?_
    simp only [gz_wO, gz_wR, gz_wI, hz, Nat.add_assoc, Nat.reduceAdd]
    refine x_putR (r := some _) 1 hO dJ5_init_d00df_14 f_J5_15 (fw_1_0 _) (by simp [gz_wO, gz_wR, gz_wI, gK_wO, gK_wR, gK_wI, gN_wO, gN_wR, gN_wI, gI_wO, gI_wR, gI_wI, gR_wO, gR_wR, gR_wI, gJ_wO, gJ_wR, gJ_wI, up2, hz, Nat.add_assoc, hK]) ⟨by decide, by decide⟩ rfl rfl rfl ?_
    refine x_aload_n dJ5_init_d00df_17 rfl ?_
    refine x_iconst (v := nI 0) dJ5_init_d00df_18 (by decide) ?_
    refine x_putB 1 hO dJ5_init_d00df_19 f_J5_22 (fw_1_1 _) (by simp [gz_wO, gz_wR, gz_wI, gK_wO, gK_wR, gK_wI, gN_wO, gN_wR, gN_wI, gI_wO, gI_wR, gI_wI, gR_wO, gR_wR, gR_wI, gJ_wO, gJ_wR, gJ_wI, up2, hz, Nat.add_assoc, hK]) ⟨by decide, by decide⟩ rfl rfl (by rfl) (by rfl) ?_
    refine x_goto (tgt := 38) dJ5_init_d00df_22 (by decide) ?_
    refine x_ret dJ5_init_d00df_38 rfl ?_
    refine hq _ ?_ ⟨?_, ?_, ?_, ?_⟩ ⟨?_, ?_, fun j hj => absurd hj (Nat.not_lt_zero j), fun j => by show 0 < 128; omega⟩ (fun a ha => ?_)
    · simp [gz_wO, gz_wR, gz_wI, gK_wO, gK_wR, gK_wI, gN_wO, gN_wR, gN_wI, gI_wO, gI_wR, gI_wI, gR_wO, gR_wR, gR_wI, gJ_wO, gJ_wR, gJ_wI, up2, hz, Nat.add_assoc]
    · simp [gz_wO, gz_wR, gz_wI, gK_wO, gK_wR, gK_wI, gN_wO, gN_wR, gN_wI, gI_wO, gI_wR, gI_wI, gR_wO, gR_wR, gR_wI, gJ_wO, gJ_wR, gJ_wI, up2, hz, Nat.add_assoc, hK]
    · simp [gz_wO, gz_wR, gz_wI, gK_wO, gK_wR, gK_wI, gN_wO, gN_wR, gN_wI, gI_wO, gI_wR, gI_wI, gR_wO, gR_wR, gR_wI, gJ_wO, gJ_wR, gJ_wI, up2, hz, Nat.add_assoc, hK]
    · simp [gz_wO, gz_wR, gz_wI, gK_wO, gK_wR, gK_wI, gN_wO, gN_wR, gN_wI, gI_wO, gI_wR, gI_wI, gR_wO, gR_wR, gR_wI, gJ_wO, gJ_wR, gJ_wI, up2, hz, Nat.add_assoc, hK]
    · simp [gz_wO, gz_wR, gz_wI, gK_wO, gK_wR, gK_wI, gN_wO, gN_wR, gN_wI, gI_wO, gI_wR, gI_wI, gR_wO, gR_wR, gR_wI, gJ_wO, gJ_wR, gJ_wI, up2, hz, Nat.add_assoc, hK]
    · simp [gz_wO, gz_wR, gz_wI, gK_wO, gK_wR, gK_wI, gN_wO, gN_wR, gN_wI, gI_wO, gI_wR, gI_wI, gR_wO, gR_wR, gR_wI, gJ_wO, gJ_wR, gJ_wI, up2, hz, Nat.add_assoc, hK]
      rfl
    · simp [gz_wO, gz_wR, gz_wI, gK_wO, gK_wR, gK_wI, gN_wO, gN_wR, gN_wI, gI_wO, gI_wR, gI_wI, gR_wO, gR_wR, gR_wI, gJ_wO, gJ_wR, gJ_wI, up2, hz, Nat.add_assoc, h0]
      rfl
    · simp [gz_wO, gz_wR, gz_wI, gK_wO, gK_wR, gK_wI, gN_wO, gN_wR, gN_wI, gI_wO, gI_wR, gI_wI, gR_wO, gR_wR, gR_wI, gJ_wO, gJ_wR, gJ_wI, up2, hz, Nat.add_assoc, show ¬ (a = h) by omega, show ¬ (a = h + 1) by omega]
theorem k_init {G : GT} {C : AH} {Q : QT} {X : XT} {sa va : Nat → Nat} {h : Nat} (hO : GO G) (hX : GX G sa va) (hz : gz C = h + 1) (hK : gK C h = 1) (h0 : ∀ j, gI C h j = 0) (hq : ∀ C' : AH, gz C' = h + 2 → SbS C' h → SbV (gI C') h [] → Ag C C' h → Q none C') : Mt G M_J4_init_da8c8 [.ref h] C Q X := by
  refine Mt_of (by decide) (Nat.le_of_ble_eq_true rfl) ?_
  refine x_aload_n dJ4_init_da8c8_0 rfl ?_
  refine x_bipush (v := nI 16) dJ4_init_da8c8_1 (by decide) ?_
  refine x_callI (As := [_]) hO dJ4_init_da8c8_3 o_J5_init_d00df rfl rfl i_J5_init_d00df l_J4_1 ⟨by decide, by decide⟩ ⟨by decide, by decide⟩ rfl rfl (Nat.le_of_ble_eq_true rfl) (j_init hO hX hz hK h0 (fun C' e1 e2 e3 e4 => ?_))
  dsimp only [Option.toList, List.cons_append, List.nil_append]
  refine x_ret dJ4_init_da8c8_6 rfl ?_
  exact hq C' e1 e2 e3 e4
/-- which word: 4 out, 5 low, 6 full, 7 ok *)-/
def wdi (ρ : Rw) (j : Nat) : Nat := if ρ (bi j 6) = 1 then 4 else if ρ (bi j 1) < ρ (bi j 2) then 5 else if ρ (bi j 1) = ρ (bi j 0) then 6 else 7
def mrk (c : Nat) : List Nat := if 100 ≤ c then [33] else []
def sgL (ρ : Rw) (j : Nat) : List Nat := [98] ++ dgs j ++ [32] ++ dgs (ρ (bi j 1)) ++ mrk (ρ (bi j 1)) ++ [47] ++ dgs (ρ (bi j 0)) ++ [32] ++ strW (wdi ρ j)
def sgV (ρ : Rw) (j i : Nat) : Int32 := if i < (sgL ρ j).length then nI ((sgL ρ j).getD i 0) else -1
def aSign (s : St) (b w : Int32) : An := if isB s.2.2.1 b then (if nI 0 ≤ w then (0, sgV s.2.2.1 b.toNatClampNeg w.toNatClampNeg, s) else (2, 0, s)) else (1, 0, s)
theorem nn_of {i : Int32} (h : nI 0 ≤ i) : ∃ k, k < 2147483648 ∧ i = nI k := by
  obtain ⟨k, -, h2, e⟩ := (rng (x := i) (a := 0) (b := 2147483647) (by decide) (by decide)).mp ⟨h, by
    rw [Int32.le_iff_toInt_le, nI_toInt (by decide)]
    have := Int32.toInt_lt i
    omega⟩
  exact ⟨k, by omega, e⟩
theorem dgs_3 {v : Nat} : (v < 10 → (dgs v).length = 1) ∧ (v < 100 → (dgs v).length ≤ 2) ∧ 1 ≤ (dgs v).length ∧ (dgs v).length ≤ 3 := by
  unfold dgs
  refine ⟨fun h => ?_, fun h => ?_, ?_, ?_⟩
  · rw [if_pos h]; rfl
  · split
    · exact Nat.le_of_ble_eq_true rfl
    · exact Nat.le_of_ble_eq_true rfl
  · split
    · exact Nat.le_of_ble_eq_true rfl
    · split <;> exact Nat.le_of_ble_eq_true rfl
  · split
    · exact Nat.le_of_ble_eq_true rfl
    · split <;> exact Nat.le_of_ble_eq_true rfl
theorem wdi_len {ρ : Rw} {j : Nat} : (strW (wdi ρ j)).length ≤ 4 ∧ 2 ≤ (strW (wdi ρ j)).length := by
  unfold wdi
  split
  · exact ⟨by decide, by decide⟩
  · split
    · exact ⟨by decide, by decide⟩
    · split <;> exact ⟨by decide, by decide⟩
theorem wdi_lt {ρ : Rw} {j : Nat} : wdi ρ j < 8 := by
  unfold wdi
  split
  · decide
  · split
    · decide
    · split <;> decide
theorem m_word {G : GT} {C : AH} {Q : QT} {X : XT} {sa va : Nat → Nat} {h j : Nat} {ρ : Rw} (hO : GO G) (hX : GX G sa va) (kb : gK C h = 2) (vb : ∀ w, w < 7 → gI C h w = nI (ρ (bi j w))) (h4 : ρ (bi j 0) ≤ 400) (h5 : ρ (bi j 1) ≤ 400) (h6 : ρ (bi j 2) ≤ 400) (h7 : ρ (bi j 6) ≤ 1) (hq : Q (some (.ref (sa (wdi ρ j)))) C) : Mt G M_X0_word [.ref h] C Q X := by
  refine Mt_of (by decide) (Nat.le_of_ble_eq_true rfl) ?_
  refine x_aload_n dX0_word_0 rfl ?_
  refine x_get 2 hO dX0_word_1 f_X0_36 (by first | (simp only [gK_wI]; assumption) | assumption) ⟨by decide, by decide⟩ (v := .int (nI (ρ (bi j 6)))) (congrArg Value.int (vb 6 (by decide))) ?_
  refine x_if_eq (tgt := 10) dX0_word_4 (by decide) (fun c4 => ?_) (fun c4 => ?_)
  · simp (disch := omega) only [nI_z] at c4
    refine x_aload_n dX0_word_10 rfl ?_
    refine x_callV (As := []) 2 hO dX0_word_11 o_X0_isLow v_X0_isLow l_X0_41 ⟨by decide, by decide⟩ (by first | (simp only [gK_wI]; assumption) | assumption) ⟨by decide, by decide⟩ rfl ⟨by decide, by decide⟩ rfl rfl (Nat.le_of_ble_eq_true rfl) (s_X0_isLow hO kb (fun r11 hr11 => ?_))
    dsimp only [Option.toList, List.cons_append, List.nil_append]
    refine x_if_eq (tgt := 20) dX0_word_14 (by decide) (fun c14 => ?_) (fun c14 => ?_)
    · have p11 := (ite01 hr11).1 c14
      rw [vb 6 (by decide), vb 1 (by decide), vb 2 (by decide)] at p11
      simp (disch := omega) only [nI_z, nI_ltI] at p11
      refine x_aload_n dX0_word_20 rfl ?_
      refine x_get 2 hO dX0_word_21 f_X0_21 (by first | (simp only [gK_wI]; assumption) | assumption) ⟨by decide, by decide⟩ (v := .int (nI (ρ (bi j 1)))) (congrArg Value.int (vb 1 (by decide))) ?_
      refine x_aload_n dX0_word_24 rfl ?_
      refine x_get 2 hO dX0_word_25 f_X0_18 (by first | (simp only [gK_wI]; assumption) | assumption) ⟨by decide, by decide⟩ (v := .int (nI (ρ (bi j 0)))) (congrArg Value.int (vb 0 (by decide))) ?_
      refine x_icmp_ne (tgt := 36) dX0_word_28 (by decide) (fun c28 => ?_) (fun c28 => ?_)
      · simp (disch := omega) only [nI_eq] at c28
        have ew : wdi ρ j = 7 := (if_neg (by omega)).trans ((if_neg (by omega)).trans (if_neg c28))
        rw [ew] at hq
        refine x_ldcS (hX.2.1 7 _ _ _ rfl) dX0_word_36 ?_
        refine x_aret (r := some _) dX0_word_38 rfl (by first | exact Or.inl ⟨_, rfl⟩ | exact Or.inr ⟨_, rfl⟩) ?_
        exact hq
      · simp (disch := omega) only [nI_eq] at c28
        have ew : wdi ρ j = 6 := (if_neg (by omega)).trans ((if_neg (by omega)).trans (if_pos (by omega)))
        rw [ew] at hq
        refine x_ldcS (hX.2.1 6 _ _ _ rfl) dX0_word_31 ?_
        refine x_goto (tgt := 38) dX0_word_33 (by decide) ?_
        refine x_aret (r := some _) dX0_word_38 rfl (by first | exact Or.inl ⟨_, rfl⟩ | exact Or.inr ⟨_, rfl⟩) ?_
        exact hq
    · have p11 := (ite01 hr11).2 c14
      rw [vb 6 (by decide), vb 1 (by decide), vb 2 (by decide)] at p11
      simp (disch := omega) only [nI_z, nI_ltI] at p11
      have ew : wdi ρ j = 5 := (if_neg (by omega)).trans (if_pos p11.2)
      rw [ew] at hq
      refine x_ldcS (hX.2.1 5 _ _ _ rfl) dX0_word_17 ?_
      refine x_aret (r := some _) dX0_word_19 rfl (by first | exact Or.inl ⟨_, rfl⟩ | exact Or.inr ⟨_, rfl⟩) ?_
      exact hq
  · simp (disch := omega) only [nI_z] at c4
    have ew : wdi ρ j = 4 := if_pos (by omega)
    rw [ew] at hq
    refine x_ldcS (hX.2.1 4 _ _ _ rfl) dX0_word_7 ?_
    refine x_aret (r := some _) dX0_word_9 rfl (by first | exact Or.inl ⟨_, rfl⟩ | exact Or.inr ⟨_, rfl⟩) ?_
    exact hq

theorem s_signOf {G : GT} {C : AH} {Q : QT} {X : XT} {sa va : Nat → Nat} {h j : Nat} {ρ : Rw} (hO : GO G) (hX : GX G sa va) (hz : h < gz C) (kb : gK C h = 2) (vb : ∀ w, w < 7 → gI C h w = nI (ρ (bi j w))) (hj : j < 8) (h4 : ρ (bi j 0) ≤ 400) (h5 : ρ (bi j 1) ≤ 400) (h6 : ρ (bi j 2) ≤ 400) (h7 : ρ (bi j 6) ≤ 1) (hq : ∀ C' : AH, gz C' = gz C + 2 → SbS C' (gz C) → SbV (gI C') (gz C) (sgL ρ j) → Ag C C' (gz C) → Q (some (.ref (gz C))) C') : Mt G M_X4_signOf [.int (nI j), .ref h] C Q X := by
  refine Mt_of (by decide) (Nat.le_of_ble_eq_true rfl) ?_
  have dj := dgs_3 (v := j)
  have d0 := dgs_3 (v := ρ (bi j 0))
  have d1 := dgs_3 (v := ρ (bi j 1))
  have dw := wdi_len (ρ := ρ) (j := j)
  have dj := dj.1 (by omega)
  have d00 := d0.2.2.2
  have d11 := d1.2.2.2
  by_cases c100 : 100 ≤ ρ (bi j 1)
  · skip
    refine x_new 1 hO dX4_signOf_0 ⟨by decide, by decide⟩ rfl q_X4_187 in_J4 ini_J4 (by decide) (by decide) (by decide) ?_
    refine x_dup dX4_signOf_3 rfl ?_
    refine x_callI (As := []) hO dX4_signOf_4 o_J4_init_da8c8 rfl rfl i_J4_init_da8c8 l_X4_332 ⟨by decide, by decide⟩ ⟨by decide, by decide⟩ rfl rfl (Nat.le_of_ble_eq_true rfl) (k_init (C := wO C 1 0) (h := gz C) hO hX rfl (if_pos rfl) (fun j => if_pos rfl) (fun C' e1 e2 e3 e4 => ?_))
    dsimp only [Option.toList, List.cons_append, List.nil_append]
    refine x_astore_n dX4_signOf_7 (by decide) ?_
    have kb1 : gK C' h = 2 := (Ag_trans (Ag_wO rfl) e4 (Nat.le_refl _) h hz).1.trans kb
    have vb1 : ∀ w, w < 7 → gI C' h w = nI (ρ (bi j w)) := fun w hw => ((Ag_trans (Ag_wO rfl) e4 (Nat.le_refl _) h hz).2.2.1 w).trans (vb w hw)
    have e4 : Ag C C' (gz C) := Ag_trans (Ag_wO rfl) e4 (Nat.le_refl _)
    refine x_aload_n dX4_signOf_8 rfl ?_
    refine x_bipush (v := nI 98) dX4_signOf_9 (by decide) ?_
    refine x_callV (As := [_]) 1 hO dX4_signOf_11 o_J4_append_cf468 v_J4_append_cf468 l_X4_333 ⟨by decide, by decide⟩ e2.1 ⟨by decide, by decide⟩ rfl ⟨by decide, by decide⟩ rfl rfl (Nat.le_of_ble_eq_true rfl) (k_append_cf468 (C := C') (w := ([] : List Nat)) (c := 98) hO hX e2 e3 (by decide) (by simp only [List.length_append, List.length_cons, List.length_nil]; omega) (fun f11 v11 r11 => ?_))
    dsimp only [Option.toList, List.cons_append, List.nil_append]
    refine x_iload_n dX4_signOf_14 rfl ?_
    refine x_callV (As := [_]) 1 hO dX4_signOf_15 o_J4_append_bf812 v_J4_append_bf812 l_X4_337 ⟨by decide, by decide⟩ e2.1 ⟨by decide, by decide⟩ rfl ⟨by decide, by decide⟩ rfl rfl (Nat.le_of_ble_eq_true rfl) (k_append_bf812 (C := wI C' f11) (w := (([] : List Nat) ++ [98])) (v := j) hO hX e2 v11 (by omega) (by simp only [List.length_append, List.length_cons, List.length_nil]; omega) (fun f15 v15 r15 => ?_))
    dsimp only [Option.toList, List.cons_append, List.nil_append]
    refine x_bipush (v := nI 32) dX4_signOf_18 (by decide) ?_
    refine x_callV (As := [_]) 1 hO dX4_signOf_20 o_J4_append_cf468 v_J4_append_cf468 l_X4_333 ⟨by decide, by decide⟩ e2.1 ⟨by decide, by decide⟩ rfl ⟨by decide, by decide⟩ rfl rfl (Nat.le_of_ble_eq_true rfl) (k_append_cf468 (C := wI C' f15) (w := ((([] : List Nat) ++ [98]) ++ dgs j)) (c := 32) hO hX e2 v15 (by decide) (by simp only [List.length_append, List.length_cons, List.length_nil]; omega) (fun f20 v20 r20 => ?_))
    dsimp only [Option.toList, List.cons_append, List.nil_append]
    refine x_aload_n dX4_signOf_23 rfl ?_
    refine x_get 2 hO dX4_signOf_24 f_X4_125 kb1 ⟨by decide, by decide⟩ (v := .int (nI (ρ (bi j 1)))) (congrArg Value.int ((congrFun ((r20 _ (by omega) (by omega)).trans ((r15 _ (by omega) (by omega)).trans (r11 _ (by omega) (by omega)))) 1).trans (vb1 1 (by decide)))) ?_
    refine x_callV (As := [_]) 1 hO dX4_signOf_27 o_J4_append_bf812 v_J4_append_bf812 l_X4_337 ⟨by decide, by decide⟩ e2.1 ⟨by decide, by decide⟩ rfl ⟨by decide, by decide⟩ rfl rfl (Nat.le_of_ble_eq_true rfl) (k_append_bf812 (C := wI C' f20) (w := (((([] : List Nat) ++ [98]) ++ dgs j) ++ [32])) (v := (ρ (bi j 1))) hO hX e2 v20 (by omega) (by simp only [List.length_append, List.length_cons, List.length_nil]; omega) (fun f27 v27 r27 => ?_))
    dsimp only [Option.toList, List.cons_append, List.nil_append]
    refine x_pop dX4_signOf_30 rfl ?_
    refine x_aload_n dX4_signOf_31 rfl ?_
    refine x_get 2 hO dX4_signOf_32 f_X4_125 kb1 ⟨by decide, by decide⟩ (v := .int (nI (ρ (bi j 1)))) (congrArg Value.int ((congrFun ((r27 _ (by omega) (by omega)).trans ((r20 _ (by omega) (by omega)).trans ((r15 _ (by omega) (by omega)).trans (r11 _ (by omega) (by omega))))) 1).trans (vb1 1 (by decide)))) ?_
    refine x_bipush (v := nI 100) dX4_signOf_35 (by decide) ?_
    refine x_icmp_lt (tgt := 47) dX4_signOf_37 (by decide) (fun c37 => ?_) (fun c37 => ?_)
    · simp (disch := omega) only [nI_ltI] at c37
      omega
    · refine x_aload_n dX4_signOf_40 rfl ?_
      refine x_bipush (v := nI 33) dX4_signOf_41 (by decide) ?_
      refine x_callV (As := [_]) 1 hO dX4_signOf_43 o_J4_append_cf468 v_J4_append_cf468 l_X4_333 ⟨by decide, by decide⟩ e2.1 ⟨by decide, by decide⟩ rfl ⟨by decide, by decide⟩ rfl rfl (Nat.le_of_ble_eq_true rfl) (k_append_cf468 (C := wI C' f27) (w := ((((([] : List Nat) ++ [98]) ++ dgs j) ++ [32]) ++ dgs (ρ (bi j 1)))) (c := 33) hO hX e2 v27 (by decide) (by simp only [List.length_append, List.length_cons, List.length_nil]; omega) (fun f43 v43 r43 => ?_))
      dsimp only [Option.toList, List.cons_append, List.nil_append]
      refine x_pop dX4_signOf_46 rfl ?_
      refine x_aload_n dX4_signOf_47 rfl ?_
      refine x_bipush (v := nI 47) dX4_signOf_48 (by decide) ?_
      refine x_callV (As := [_]) 1 hO dX4_signOf_50 o_J4_append_cf468 v_J4_append_cf468 l_X4_333 ⟨by decide, by decide⟩ e2.1 ⟨by decide, by decide⟩ rfl ⟨by decide, by decide⟩ rfl rfl (Nat.le_of_ble_eq_true rfl) (k_append_cf468 (C := wI C' f43) (w := (((((([] : List Nat) ++ [98]) ++ dgs j) ++ [32]) ++ dgs (ρ (bi j 1))) ++ [33])) (c := 47) hO hX e2 v43 (by decide) (by simp only [List.length_append, List.length_cons, List.length_nil]; omega) (fun f50 v50 r50 => ?_))
      dsimp only [Option.toList, List.cons_append, List.nil_append]
      refine x_aload_n dX4_signOf_53 rfl ?_
      refine x_get 2 hO dX4_signOf_54 f_X4_120 kb1 ⟨by decide, by decide⟩ (v := .int (nI (ρ (bi j 0)))) (congrArg Value.int ((congrFun ((r50 _ (by omega) (by omega)).trans ((r43 _ (by omega) (by omega)).trans ((r27 _ (by omega) (by omega)).trans ((r20 _ (by omega) (by omega)).trans ((r15 _ (by omega) (by omega)).trans (r11 _ (by omega) (by omega))))))) 0).trans (vb1 0 (by decide)))) ?_
      refine x_callV (As := [_]) 1 hO dX4_signOf_57 o_J4_append_bf812 v_J4_append_bf812 l_X4_337 ⟨by decide, by decide⟩ e2.1 ⟨by decide, by decide⟩ rfl ⟨by decide, by decide⟩ rfl rfl (Nat.le_of_ble_eq_true rfl) (k_append_bf812 (C := wI C' f50) (w := ((((((([] : List Nat) ++ [98]) ++ dgs j) ++ [32]) ++ dgs (ρ (bi j 1))) ++ [33]) ++ [47])) (v := (ρ (bi j 0))) hO hX e2 v50 (by omega) (by simp only [List.length_append, List.length_cons, List.length_nil]; omega) (fun f57 v57 r57 => ?_))
      dsimp only [Option.toList, List.cons_append, List.nil_append]
      refine x_bipush (v := nI 32) dX4_signOf_60 (by decide) ?_
      refine x_callV (As := [_]) 1 hO dX4_signOf_62 o_J4_append_cf468 v_J4_append_cf468 l_X4_333 ⟨by decide, by decide⟩ e2.1 ⟨by decide, by decide⟩ rfl ⟨by decide, by decide⟩ rfl rfl (Nat.le_of_ble_eq_true rfl) (k_append_cf468 (C := wI C' f57) (w := (((((((([] : List Nat) ++ [98]) ++ dgs j) ++ [32]) ++ dgs (ρ (bi j 1))) ++ [33]) ++ [47]) ++ dgs (ρ (bi j 0)))) (c := 32) hO hX e2 v57 (by decide) (by simp only [List.length_append, List.length_cons, List.length_nil]; omega) (fun f62 v62 r62 => ?_))
      dsimp only [Option.toList, List.cons_append, List.nil_append]
      refine x_aload_n dX4_signOf_65 rfl ?_
      refine x_callV (As := []) 2 hO dX4_signOf_66 o_X0_word v_X0_word l_X4_340 ⟨by decide, by decide⟩ kb1 ⟨by decide, by decide⟩ rfl ⟨by decide, by decide⟩ rfl rfl (Nat.le_of_ble_eq_true rfl) (m_word (C := wI C' f62) (j := j) (ρ := ρ) hO hX kb1 (fun w hw => (congrFun ((r62 _ (by omega) (by omega)).trans ((r57 _ (by omega) (by omega)).trans ((r50 _ (by omega) (by omega)).trans ((r43 _ (by omega) (by omega)).trans ((r27 _ (by omega) (by omega)).trans ((r20 _ (by omega) (by omega)).trans ((r15 _ (by omega) (by omega)).trans (r11 _ (by omega) (by omega))))))))) w).trans (vb1 w hw)) h4 h5 h6 h7 ?_)
      dsimp only [Option.toList, List.cons_append, List.nil_append]
      refine x_callV (As := [_]) 1 hO dX4_signOf_69 o_J4_append_15ec4 v_J4_append_15ec4 l_X4_344 ⟨by decide, by decide⟩ e2.1 ⟨by decide, by decide⟩ rfl ⟨by decide, by decide⟩ rfl rfl (Nat.le_of_ble_eq_true rfl) (k_append_15ec4 (C := wI C' f62) (w := ((((((((([] : List Nat) ++ [98]) ++ dgs j) ++ [32]) ++ dgs (ρ (bi j 1))) ++ [33]) ++ [47]) ++ dgs (ρ (bi j 0))) ++ [32])) hO hX e2 v62 (GX_S hX (wdi ρ j) wdi_lt) (by simp only [List.length_append, List.length_cons, List.length_nil]; omega) (fun f69 v69 r69 => ?_))
      dsimp only [Option.toList, List.cons_append, List.nil_append]
      refine x_aret (r := some _) dX4_signOf_72 rfl (by first | exact Or.inl ⟨_, rfl⟩ | exact Or.inr ⟨_, rfl⟩) ?_
      try simp only [wI_wI, gI_wI]
      have eL : (((((((((([] : List Nat) ++ [98]) ++ dgs j) ++ [32]) ++ dgs (ρ (bi j 1))) ++ [33]) ++ [47]) ++ dgs (ρ (bi j 0))) ++ [32]) ++ strW (wdi ρ j)) = sgL ρ j := by
        unfold sgL mrk
        rw [if_pos c100]
        simp only [List.nil_append, List.append_nil, List.append_assoc]
      rw [eL] at v69
      have rr : SbF f69 (gI C') (gz C) := SbF_t r69 (SbF_t r62 (SbF_t r57 (SbF_t r50 (SbF_t r43 (SbF_t r27 (SbF_t r20 (SbF_t r15 (r11))))))))
      refine hq _ e1 e2 v69 (fun a ha => ?_)
      obtain ⟨a1, a2, a3, a4, a5⟩ := e4 a ha
      exact ⟨a1, a2, fun j => (congrFun (rr a (by omega) (by omega)) j).trans (a3 j), a4, a5⟩
  · have d12 := d1.2.1 (by omega)
    refine x_new 1 hO dX4_signOf_0 ⟨by decide, by decide⟩ rfl q_X4_187 in_J4 ini_J4 (by decide) (by decide) (by decide) ?_
    refine x_dup dX4_signOf_3 rfl ?_
    refine x_callI (As := []) hO dX4_signOf_4 o_J4_init_da8c8 rfl rfl i_J4_init_da8c8 l_X4_332 ⟨by decide, by decide⟩ ⟨by decide, by decide⟩ rfl rfl (Nat.le_of_ble_eq_true rfl) (k_init (C := wO C 1 0) (h := gz C) hO hX rfl (if_pos rfl) (fun j => if_pos rfl) (fun C' e1 e2 e3 e4 => ?_))
    dsimp only [Option.toList, List.cons_append, List.nil_append]
    refine x_astore_n dX4_signOf_7 (by decide) ?_
    have kb1 : gK C' h = 2 := (Ag_trans (Ag_wO rfl) e4 (Nat.le_refl _) h hz).1.trans kb
    have vb1 : ∀ w, w < 7 → gI C' h w = nI (ρ (bi j w)) := fun w hw => ((Ag_trans (Ag_wO rfl) e4 (Nat.le_refl _) h hz).2.2.1 w).trans (vb w hw)
    have e4 : Ag C C' (gz C) := Ag_trans (Ag_wO rfl) e4 (Nat.le_refl _)
    refine x_aload_n dX4_signOf_8 rfl ?_
    refine x_bipush (v := nI 98) dX4_signOf_9 (by decide) ?_
    refine x_callV (As := [_]) 1 hO dX4_signOf_11 o_J4_append_cf468 v_J4_append_cf468 l_X4_333 ⟨by decide, by decide⟩ e2.1 ⟨by decide, by decide⟩ rfl ⟨by decide, by decide⟩ rfl rfl (Nat.le_of_ble_eq_true rfl) (k_append_cf468 (C := C') (w := ([] : List Nat)) (c := 98) hO hX e2 e3 (by decide) (by simp only [List.length_append, List.length_cons, List.length_nil]; omega) (fun f11 v11 r11 => ?_))
    dsimp only [Option.toList, List.cons_append, List.nil_append]
    refine x_iload_n dX4_signOf_14 rfl ?_
    refine x_callV (As := [_]) 1 hO dX4_signOf_15 o_J4_append_bf812 v_J4_append_bf812 l_X4_337 ⟨by decide, by decide⟩ e2.1 ⟨by decide, by decide⟩ rfl ⟨by decide, by decide⟩ rfl rfl (Nat.le_of_ble_eq_true rfl) (k_append_bf812 (C := wI C' f11) (w := (([] : List Nat) ++ [98])) (v := j) hO hX e2 v11 (by omega) (by simp only [List.length_append, List.length_cons, List.length_nil]; omega) (fun f15 v15 r15 => ?_))
    dsimp only [Option.toList, List.cons_append, List.nil_append]
    refine x_bipush (v := nI 32) dX4_signOf_18 (by decide) ?_
    refine x_callV (As := [_]) 1 hO dX4_signOf_20 o_J4_append_cf468 v_J4_append_cf468 l_X4_333 ⟨by decide, by decide⟩ e2.1 ⟨by decide, by decide⟩ rfl ⟨by decide, by decide⟩ rfl rfl (Nat.le_of_ble_eq_true rfl) (k_append_cf468 (C := wI C' f15) (w := ((([] : List Nat) ++ [98]) ++ dgs j)) (c := 32) hO hX e2 v15 (by decide) (by simp only [List.length_append, List.length_cons, List.length_nil]; omega) (fun f20 v20 r20 => ?_))
    dsimp only [Option.toList, List.cons_append, List.nil_append]
    refine x_aload_n dX4_signOf_23 rfl ?_
    refine x_get 2 hO dX4_signOf_24 f_X4_125 kb1 ⟨by decide, by decide⟩ (v := .int (nI (ρ (bi j 1)))) (congrArg Value.int ((congrFun ((r20 _ (by omega) (by omega)).trans ((r15 _ (by omega) (by omega)).trans (r11 _ (by omega) (by omega)))) 1).trans (vb1 1 (by decide)))) ?_
    refine x_callV (As := [_]) 1 hO dX4_signOf_27 o_J4_append_bf812 v_J4_append_bf812 l_X4_337 ⟨by decide, by decide⟩ e2.1 ⟨by decide, by decide⟩ rfl ⟨by decide, by decide⟩ rfl rfl (Nat.le_of_ble_eq_true rfl) (k_append_bf812 (C := wI C' f20) (w := (((([] : List Nat) ++ [98]) ++ dgs j) ++ [32])) (v := (ρ (bi j 1))) hO hX e2 v20 (by omega) (by simp only [List.length_append, List.length_cons, List.length_nil]; omega) (fun f27 v27 r27 => ?_))
    dsimp only [Option.toList, List.cons_append, List.nil_append]
    refine x_pop dX4_signOf_30 rfl ?_
    refine x_aload_n dX4_signOf_31 rfl ?_
    refine x_get 2 hO dX4_signOf_32 f_X4_125 kb1 ⟨by decide, by decide⟩ (v := .int (nI (ρ (bi j 1)))) (congrArg Value.int ((congrFun ((r27 _ (by omega) (by omega)).trans ((r20 _ (by omega) (by omega)).trans ((r15 _ (by omega) (by omega)).trans (r11 _ (by omega) (by omega))))) 1).trans (vb1 1 (by decide)))) ?_
    refine x_bipush (v := nI 100) dX4_signOf_35 (by decide) ?_
    refine x_icmp_lt (tgt := 47) dX4_signOf_37 (by decide) (fun c37 => ?_) (fun c37 => ?_)
    · refine x_aload_n dX4_signOf_47 rfl ?_
      refine x_bipush (v := nI 47) dX4_signOf_48 (by decide) ?_
      refine x_callV (As := [_]) 1 hO dX4_signOf_50 o_J4_append_cf468 v_J4_append_cf468 l_X4_333 ⟨by decide, by decide⟩ e2.1 ⟨by decide, by decide⟩ rfl ⟨by decide, by decide⟩ rfl rfl (Nat.le_of_ble_eq_true rfl) (k_append_cf468 (C := wI C' f27) (w := ((((([] : List Nat) ++ [98]) ++ dgs j) ++ [32]) ++ dgs (ρ (bi j 1)))) (c := 47) hO hX e2 v27 (by decide) (by simp only [List.length_append, List.length_cons, List.length_nil]; omega) (fun f50 v50 r50 => ?_))
      dsimp only [Option.toList, List.cons_append, List.nil_append]
      refine x_aload_n dX4_signOf_53 rfl ?_
      refine x_get 2 hO dX4_signOf_54 f_X4_120 kb1 ⟨by decide, by decide⟩ (v := .int (nI (ρ (bi j 0)))) (congrArg Value.int ((congrFun ((r50 _ (by omega) (by omega)).trans ((r27 _ (by omega) (by omega)).trans ((r20 _ (by omega) (by omega)).trans ((r15 _ (by omega) (by omega)).trans (r11 _ (by omega) (by omega)))))) 0).trans (vb1 0 (by decide)))) ?_
      refine x_callV (As := [_]) 1 hO dX4_signOf_57 o_J4_append_bf812 v_J4_append_bf812 l_X4_337 ⟨by decide, by decide⟩ e2.1 ⟨by decide, by decide⟩ rfl ⟨by decide, by decide⟩ rfl rfl (Nat.le_of_ble_eq_true rfl) (k_append_bf812 (C := wI C' f50) (w := (((((([] : List Nat) ++ [98]) ++ dgs j) ++ [32]) ++ dgs (ρ (bi j 1))) ++ [47])) (v := (ρ (bi j 0))) hO hX e2 v50 (by omega) (by simp only [List.length_append, List.length_cons, List.length_nil]; omega) (fun f57 v57 r57 => ?_))
      dsimp only [Option.toList, List.cons_append, List.nil_append]
      refine x_bipush (v := nI 32) dX4_signOf_60 (by decide) ?_
      refine x_callV (As := [_]) 1 hO dX4_signOf_62 o_J4_append_cf468 v_J4_append_cf468 l_X4_333 ⟨by decide, by decide⟩ e2.1 ⟨by decide, by decide⟩ rfl ⟨by decide, by decide⟩ rfl rfl (Nat.le_of_ble_eq_true rfl) (k_append_cf468 (C := wI C' f57) (w := ((((((([] : List Nat) ++ [98]) ++ dgs j) ++ [32]) ++ dgs (ρ (bi j 1))) ++ [47]) ++ dgs (ρ (bi j 0)))) (c := 32) hO hX e2 v57 (by decide) (by simp only [List.length_append, List.length_cons, List.length_nil]; omega) (fun f62 v62 r62 => ?_))
      dsimp only [Option.toList, List.cons_append, List.nil_append]
      refine x_aload_n dX4_signOf_65 rfl ?_
      refine x_callV (As := []) 2 hO dX4_signOf_66 o_X0_word v_X0_word l_X4_340 ⟨by decide, by decide⟩ kb1 ⟨by decide, by decide⟩ rfl ⟨by decide, by decide⟩ rfl rfl (Nat.le_of_ble_eq_true rfl) (m_word (C := wI C' f62) (j := j) (ρ := ρ) hO hX kb1 (fun w hw => (congrFun ((r62 _ (by omega) (by omega)).trans ((r57 _ (by omega) (by omega)).trans ((r50 _ (by omega) (by omega)).trans ((r27 _ (by omega) (by omega)).trans ((r20 _ (by omega) (by omega)).trans ((r15 _ (by omega) (by omega)).trans (r11 _ (by omega) (by omega)))))))) w).trans (vb1 w hw)) h4 h5 h6 h7 ?_)
      dsimp only [Option.toList, List.cons_append, List.nil_append]
      refine x_callV (As := [_]) 1 hO dX4_signOf_69 o_J4_append_15ec4 v_J4_append_15ec4 l_X4_344 ⟨by decide, by decide⟩ e2.1 ⟨by decide, by decide⟩ rfl ⟨by decide, by decide⟩ rfl rfl (Nat.le_of_ble_eq_true rfl) (k_append_15ec4 (C := wI C' f62) (w := (((((((([] : List Nat) ++ [98]) ++ dgs j) ++ [32]) ++ dgs (ρ (bi j 1))) ++ [47]) ++ dgs (ρ (bi j 0))) ++ [32])) hO hX e2 v62 (GX_S hX (wdi ρ j) wdi_lt) (by simp only [List.length_append, List.length_cons, List.length_nil]; omega) (fun f69 v69 r69 => ?_))
      dsimp only [Option.toList, List.cons_append, List.nil_append]
      refine x_aret (r := some _) dX4_signOf_72 rfl (by first | exact Or.inl ⟨_, rfl⟩ | exact Or.inr ⟨_, rfl⟩) ?_
      try simp only [wI_wI, gI_wI]
      have eL : ((((((((([] : List Nat) ++ [98]) ++ dgs j) ++ [32]) ++ dgs (ρ (bi j 1))) ++ [47]) ++ dgs (ρ (bi j 0))) ++ [32]) ++ strW (wdi ρ j)) = sgL ρ j := by
        unfold sgL mrk
        rw [if_neg c100]
        simp only [List.nil_append, List.append_nil, List.append_assoc]
      rw [eL] at v69
      have rr : SbF f69 (gI C') (gz C) := SbF_t r69 (SbF_t r62 (SbF_t r57 (SbF_t r50 (SbF_t r27 (SbF_t r20 (SbF_t r15 (r11)))))))
      refine hq _ e1 e2 v69 (fun a ha => ?_)
      obtain ⟨a1, a2, a3, a4, a5⟩ := e4 a ha
      exact ⟨a1, a2, fun j => (congrFun (rr a (by omega) (by omega)) j).trans (a3 j), a4, a5⟩
    · simp (disch := omega) only [nI_ltI] at c37
      omega

theorem RX_A {T x : Nat} {C C' : AH} {s : St} (h : RX T C x s) (hs : Sm C C' x (x + 255)) (hz : gz C ≤ gz C') : RX T C' x s := by
  obtain ⟨hk, π, ⟨hK, ⟨g0, g1, g2, g3, g4, g5, g6⟩, hTx, hNow, hHi, ⟨ks, ns, es⟩, ⟨kf, nf⟩, hTr, hPr, hSl, hgz⟩, vT, vN, vH, vS⟩ := h
  have sm : ∀ lo hi, x ≤ lo → hi ≤ x + 255 → Sm C C' lo hi := fun lo hi h1 h2 q q1 q2 => hs q (by omega) (by omega)
  have fi : ∀ a, x ≤ a → a < x + 255 → gI C' a = gI C a := fun a h1 h2 => funext fun j => (hs a h1 h2).2.2.1 j
  obtain ⟨xK, -, -, xR, -⟩ := hs x (by omega) (by omega)
  refine ⟨hk, π, ⟨xK.trans hK, ⟨(xR _).trans g0, (xR _).trans g1, (xR _).trans g2, (xR _).trans g3, (xR _).trans g4, (xR _).trans g5, (xR _).trans g6⟩, TxS_A hTx (sm _ _ (by omega) (by omega)), SkD_A hNow (sm _ _ (by omega) (by omega)), HiS_A hHi (sm _ _ (by omega) (by omega)), ⟨?_, ?_, fun i hi => ?_⟩, ⟨?_, ?_⟩, SkD_A hTr (sm _ _ (by omega) (by omega)), SkD_A hPr (sm _ _ (by omega) (by omega)), fun i hi => SkD_A (hSl i hi) (sm _ _ (by omega) (by omega)), by omega⟩, ?_, ?_, ?_, ?_⟩
  · exact (hs _ (by omega) (by omega)).1.trans ks
  · exact (hs _ (by omega) (by omega)).2.1.trans ns
  · exact ((hs (x + 201) (by omega) (by omega)).2.2.2.1 i).trans (es i hi)
  · exact (hs _ (by omega) (by omega)).1.trans kf
  · exact (hs _ (by omega) (by omega)).2.1.trans nf
  · exact TxV_in vT (congrFun (fi _ (by omega) (by omega)) 1) (fi _ (by omega) (by omega))
  · exact VaD_in hk.1.1 vN fun a h1 h2 => fi a (by omega) (by omega)
  · exact HiV_in hHi vH fun a h1 h2 => fi a (by omega) (by omega)
  · exact SlV_in vS (fi _ (by omega) (by omega)) fun a h1 h2 => fi a (by omega) (by omega)
theorem Fr_Ag {C C' : AH} {x w : Nat} (h : Ag C C' (gz C)) (hz : gz C ≤ gz C') : Fr C C' x w := ⟨hz, fun a ha _ => h a ha⟩
theorem t_sign {G : GT} {C : AH} {Q : QT} {X : XT} {sa va : Nat → Nat} {x T n : Nat} {S : Nat → Nat} {ρ : Rw} {L : List Rw} {K : Nat → Option Rw} {b w : Int32} (hO : GO G) (hX : GX G sa va) (hT : T ≤ 40000) (hR : RX T C x (S, n, ρ, L, K)) (hq : (aSign (S, n, ρ, L, K) b w).1 = 0 → ∀ C' : AH, RX (T) C' x (aSign (S, n, ρ, L, K) b w).2.2 → Fr C C' x 255 → Q (some (.int (aSign (S, n, ρ, L, K) b w).2.1)) C') (hx1 : (aSign (S, n, ρ, L, K) b w).1 = 1 → ∀ C' : AH, RX (T) C' x (aSign (S, n, ρ, L, K) b w).2.2 → Fr C C' x 255 → X "java/lang/IndexOutOfBoundsException" C') (hx2 : (aSign (S, n, ρ, L, K) b w).1 = 2 → ∀ C' : AH, RX (T) C' x (aSign (S, n, ρ, L, K) b w).2.2 → Fr C C' x 255 → X "java/lang/IllegalArgumentException" C') : Mt G M_X4_sign [.ref x, .int b, .int w] C Q X := by
  refine Mt_of (by decide) (Nat.le_of_ble_eq_true rfl) ?_
  obtain ⟨hk, π, hs, hv⟩ := id hR
  obtain ⟨hK, ⟨g0, g1, g2, g3, g4, g5, g6⟩, hTx, hNow, hHi, ⟨ks, ns, es⟩, ⟨kf, nf⟩, hTr, hPr, hSl, hgz⟩ := id hs
  have kTx := hTx.1
  have kNow := hNow.1
  have kHi := hHi.1
  have kTr := hTr.1
  have kPr := hPr.1
  obtain ⟨vT, vN, vH, vS⟩ : TxV (gI C) (x + 1) S n ∧ VaD (gI C) (x + 4) ρ ∧ HiV (gI C) (x + 17) π L ∧ SlV (gI C) x K := hv
  obtain ⟨ok1, ok2, ok3, ok4, ok5, ok6⟩ : Ok T ρ ∧ (∀ σ, σ ∈ L → Ok T σ) ∧ (∀ i σ, K i = some σ → Ok T σ) ∧ n ≤ 120 ∧ (∀ i, i < n → S i < 256) ∧ L.length ≤ 14 := hk
  obtain ⟨hW, hB⟩ := id ok1
  obtain ⟨b0, b3, b4, b5, b6, b7⟩ := id hB
  obtain ⟨w1, w2, w7, w8, w9, w10, w11, w11', w12, wB, wP⟩ := id hW
  obtain ⟨s0, s1, s2, s3, v4, v5, v6, v7, v8, v9, v10⟩ := SkD_f hNow vN
  refine x_aload_n dX4_sign_0 rfl ?_
  refine x_iload_n dX4_sign_1 rfl ?_
  refine x_callV (As := [_]) 6 hO dX4_sign_2 o_X4_requireBus v_X4_requireBus l_X4_116 ⟨by decide, by decide⟩ (by first | (simp only [gK_wI]; assumption) | assumption) ⟨by decide, by decide⟩ rfl ⟨by decide, by decide⟩ rfl rfl (Nat.le_of_ble_eq_true rfl) (t_requireBus hO hX hT hR (fun j hj hb9 => ?_) (fun hnb => ?_))
  · dsimp only [Option.toList, List.cons_append, List.nil_append]
    subst hb9
    have vb : ∀ b, b < ρ 1 → ∀ w, w < 7 → gI C (x + 4 + 5 + b) w = nI (ρ (bi b w)) := vN.2.2.2.2.2.2.2.2.1
    have hbus := hNow.2.2.2.2.2.2.2.2.2.2.2.2.2
    have kb := (hbus j (by omega)).2
    have hib : isB ρ (nI j) := (ix_of (by omega)).mpr ⟨j, hj, rfl⟩
    have eA : aSign (S, n, ρ, L, K) (nI j) w = (if nI 0 ≤ w then (0, sgV ρ j w.toNatClampNeg, (S, n, ρ, L, K)) else (2, 0, (S, n, ρ, L, K))) := by
      unfold aSign
      rw [if_pos hib, nI_clamp (show j < 2 ^ 31 by omega)]
    rw [eA] at hq hx2
    refine x_astore_n dX4_sign_5 (by decide) ?_
    refine x_iload_n dX4_sign_6 rfl ?_
    refine x_if_ge (tgt := 20) dX4_sign_7 (by decide) (fun c7 => ?_) (fun c7 => ?_)
    · have c7 : nI 0 ≤ w := c7
      rw [if_pos c7] at hq
      obtain ⟨k, hk9, rfl⟩ := nn_of c7
      rw [nI_clamp (by omega)] at hq
      obtain ⟨u0, u1, u2, u3, u4, u5, u6, u7, u8⟩ := wB j hj
      refine x_iload_n dX4_sign_20 rfl ?_
      refine x_aload_n dX4_sign_21 rfl ?_
      refine x_callS (As := [_, _]) hO dX4_sign_22 o_X4_signOf s_X4_signOf l_X4_182 ⟨by decide, by decide⟩ ⟨by decide, by decide⟩ rfl rfl (Nat.le_of_ble_eq_true rfl) (s_signOf (h := x + 4 + 5 + j) (j := j) (ρ := ρ) hO hX (by omega) kb (fun w hw => vb j hj w hw) (by omega) (by omega) (by omega) (by omega) (by omega) (fun C' e1 e2 e3 e4 => ?_))
      dsimp only [Option.toList, List.cons_append, List.nil_append]
      refine x_astore dX4_sign_25 (by decide) ?_
      have hl16 : (sgL ρ j).length ≤ 16 := by
        have dj := (dgs_3 (v := j)).1 (by omega)
        have d0 := (dgs_3 (v := ρ (bi j 0))).2.2.2
        have d1 := dgs_3 (v := ρ (bi j 1))
        have dw := (wdi_len (ρ := ρ) (j := j)).1
        unfold sgL mrk
        have d11 := d1.2.2.2
        by_cases c : 100 ≤ ρ (bi j 1)
        · rw [if_pos c]
          simp only [List.length_append, List.length_cons, List.length_nil]
          omega
        · rw [if_neg c]
          have := d1.2.1 (by omega)
          simp only [List.length_append, List.length_cons, List.length_nil]
          omega
      have hRX : RX T C' x (S, n, ρ, L, K) := RX_A hR (fun q q1 q2 => e4 q (by omega)) (by omega)
      have hFr : Fr C C' x 255 := Fr_Ag e4 (by omega)
      refine x_iload_n dX4_sign_27 rfl ?_
      refine x_aload dX4_sign_28 rfl ?_
      refine x_callV (As := []) 1 hO dX4_sign_30 o_J4_length_8abf5 v_J4_length_8abf5 l_X4_186 ⟨by decide, by decide⟩ e2.1 ⟨by decide, by decide⟩ rfl ⟨by decide, by decide⟩ rfl rfl (Nat.le_of_ble_eq_true rfl) (k_length_8abf5 hO hX e2 e3 ?_)
      dsimp only [Option.toList, List.cons_append, List.nil_append]
      refine x_icmp_lt (tgt := 38) dX4_sign_33 (by decide) (fun c33 => ?_) (fun c33 => ?_)
      · simp (disch := omega) only [nI_ltI] at c33
        refine x_aload dX4_sign_38 rfl ?_
        refine x_iload_n dX4_sign_40 rfl ?_
        refine x_callV (As := [_]) 1 hO dX4_sign_41 o_J4_charAt_5068e v_J4_charAt_5068e l_X4_191 ⟨by decide, by decide⟩ e2.1 ⟨by decide, by decide⟩ rfl ⟨by decide, by decide⟩ rfl rfl (Nat.le_of_ble_eq_true rfl) (k_charAt_5068e (i := k) hO hX e2 e3 c33 hl16 ?_)
        dsimp only [Option.toList, List.cons_append, List.nil_append]
        refine x_iret dX4_sign_44 rfl rfl ?_
        have eV : sgV ρ j k = nI ((sgL ρ j).getD k 0) := if_pos c33
        rw [eV] at hq
        exact hq rfl _ hRX hFr
      · simp (disch := omega) only [nI_ltI] at c33
        refine x_iconst (v := (-1)) dX4_sign_36 (by decide) ?_
        refine x_iret dX4_sign_37 rfl rfl ?_
        have eV : sgV ρ j k = -1 := if_neg c33
        rw [eV] at hq
        exact hq rfl _ hRX hFr
    · refine x_throwS (names := nmsX) hO hX.1 dX4_sign_10 dX4_sign_13 dX4_sign_14 dX4_sign_16 dX4_sign_19 fit_181 nms_fit q_X4_177 ini_IllegalArgumentException (hX.2.1 13 _ _ _ rfl) g1_181 dcl g2_181 (dcl_ok hO) (gd_181 _) (Nat.le_of_ble_eq_true rfl) ⟨by decide, by decide⟩ ⟨by decide, by decide⟩ ?_
      rw [if_neg (show ¬ nI 0 ≤ w from c7)] at hx2
      exact fun z hz => hx2 rfl _ (RX_wZ hR hz) (Fr_wZ hz)
  · have eA : aSign (S, n, ρ, L, K) b w = (1, 0, (S, n, ρ, L, K)) := if_neg hnb
    rw [eA] at hx1
    exact fun z hz => hx1 rfl _ (RX_wZ hR hz) (Fr_wZ hz)

