/-! the reference: its constructor *)-/
set_option maxHeartbeats 2000000 in
theorem r_init {G : GT} {C : AH} {Q : QT} {X : XT} {m : Nat} (hO : GO G) (hz : gz C = m + 1) (hK : gK C m = 7) (h0 : ∀ j, gI C m j = 0) (hq : ∀ C' : AH, RM 0 C' m st0 → gz C' = m + 14 → Ag C C' m → Q none C') : Mt G M_X5_init [.ref m] C Q X := by
  refine Mt_of (by decide) (Nat.le_of_ble_eq_true rfl) ?_
  have fin : ∀ D : AH, gz D = m + 14 → MdS D m → (∀ j, gI D m j = 0) → (∀ j, gI D (m + 8) j = 0) → Ag C D m → Ex G M_X5_init Q X (mC M_X5_init - 13) (mS M_X5_init - 1567) 106 [(0, .ref m)] [] D := by
    intro D hD hM z0 z8 hA
    obtain ⟨hm0, ⟨g1, g6, g7, g8, g9, g10, g12, g13, g14, g15, g16, g17, g18⟩, k1, k2, k3, k4, k5, k6, k7, k8, k9, k10, k11, k12, k13, hmz⟩ := id hM
    refine x_aload_n dX5_init_106 rfl ?_
    refine x_get 7 hO dX5_init_107 f_X5_19 (by first | (simp only [gK_wI]; assumption) | assumption) ⟨by decide, by decide⟩ (v := .ref (m + 4)) (congrArg va_rf g8) ?_
    refine x_callS (As := [_]) hO dX5_init_110 o_X5_clean s_X5_clean l_X5_50 ⟨by decide, by decide⟩ ⟨by decide, by decide⟩ rfl rfl (Nat.le_of_ble_eq_true rfl) (r_clean (ρ := new0) hO k4 (fun f110 v110 r110 => ?_))
    dsimp only [Option.toList, List.cons_append, List.nil_append]
    refine x_ret dX5_init_113 rfl ?_
    refine hq _ ⟨⟨Ok_new, fun σ h => absurd h (by simp [st0]), fun i σ h => absurd h (by simp [st0]), Nat.zero_le _, fun i hi => absurd hi (Nat.not_lt_zero i), Nat.zero_le _⟩, hM, ?_, fun i hi => absurd hi (Nat.not_lt_zero i), v110, ?_, fun i σ h => absurd h (by simp [st0]), fun i hi => ⟨fun _ => ?_, fun σ h => absurd h (by simp [st0])⟩⟩ hD (fun a ha => ?_)
    · show f110 m 2 = nI 0
      rw [r110 m (by omega)]
      exact z0 2
    · show f110 m 11 = nI 0
      rw [r110 m (by omega)]
      exact z0 11
    · show f110 (m + 8) i = 0
      rw [r110 (m + 8) (by omega)]
      exact z8 i
    · obtain ⟨a1, a2, a3, a4, a5⟩ := hA a ha
      exact ⟨a1, a2, fun j => (congrFun (r110 a (by omega)) j).trans (a3 j), a4, a5⟩
  refine x_aload_n dX5_init_0 rfl ?_
  refine x_objI hO dX5_init_1 l_X5_1 i_obj c_obj ⟨by decide, by decide⟩ (Nat.le_of_ble_eq_true rfl) ?_
  refine x_aload_n dX5_init_4 rfl ?_
  refine x_bipush (v := nI 120) dX5_init_5 (by decide) ?_
  refine x_newa 20 _ hO dX5_init_7 ⟨by decide, by decide⟩ rfl ac_int rfl (by decide) (by decide) (by decide) ?_
  simp only [gz_wO, gz_wR, gz_wI, hz, Nat.add_assoc, Nat.reduceAdd]
  refine x_putR (r := some _) 7 hO dX5_init_9 f_X5_7 (fw_7_1) (by simp [gz_wO, gz_wR, gz_wI, gK_wO, gK_wR, gK_wI, gN_wO, gN_wR, gN_wI, gI_wO, gI_wR, gI_wI, gR_wO, gR_wR, gR_wI, gJ_wO, gJ_wR, gJ_wI, up2, hz, Nat.add_assoc, hK]) ⟨by decide, by decide⟩ rfl rfl rfl ?_
  refine x_aload_n dX5_init_12 rfl ?_
  refine x_bipush (v := nI 74) dX5_init_13 (by decide) ?_
  refine x_newa 20 _ hO dX5_init_15 ⟨by decide, by decide⟩ rfl ac_int rfl (by decide) (by decide) (by decide) ?_
  simp only [gz_wO, gz_wR, gz_wI, hz, Nat.add_assoc, Nat.reduceAdd]
  refine x_putR (r := some _) 7 hO dX5_init_17 f_X5_13 (fw_7_6) (by simp [gz_wO, gz_wR, gz_wI, gK_wO, gK_wR, gK_wI, gN_wO, gN_wR, gN_wI, gI_wO, gI_wR, gI_wI, gR_wO, gR_wR, gR_wI, gJ_wO, gJ_wR, gJ_wI, up2, hz, Nat.add_assoc, hK]) ⟨by decide, by decide⟩ rfl rfl rfl ?_
  refine x_aload_n dX5_init_20 rfl ?_
  refine x_iconst (v := nI 5) dX5_init_21 (by decide) ?_
  refine x_newa 20 _ hO dX5_init_22 ⟨by decide, by decide⟩ rfl ac_int rfl (by decide) (by decide) (by decide) ?_
  simp only [gz_wO, gz_wR, gz_wI, hz, Nat.add_assoc, Nat.reduceAdd]
  refine x_putR (r := some _) 7 hO dX5_init_24 f_X5_16 (fw_7_7) (by simp [gz_wO, gz_wR, gz_wI, gK_wO, gK_wR, gK_wI, gN_wO, gN_wR, gN_wI, gI_wO, gI_wR, gI_wI, gR_wO, gR_wR, gR_wI, gJ_wO, gJ_wR, gJ_wI, up2, hz, Nat.add_assoc, hK]) ⟨by decide, by decide⟩ rfl rfl rfl ?_
  refine x_aload_n dX5_init_27 rfl ?_
  refine x_bipush (v := nI 74) dX5_init_28 (by decide) ?_
  refine x_newa 20 _ hO dX5_init_30 ⟨by decide, by decide⟩ rfl ac_int rfl (by decide) (by decide) (by decide) ?_
  simp only [gz_wO, gz_wR, gz_wI, hz, Nat.add_assoc, Nat.reduceAdd]
  refine x_putR (r := some _) 7 hO dX5_init_32 f_X5_19 (fw_7_8) (by simp [gz_wO, gz_wR, gz_wI, gK_wO, gK_wR, gK_wI, gN_wO, gN_wR, gN_wI, gI_wO, gI_wR, gI_wI, gR_wO, gR_wR, gR_wI, gJ_wO, gJ_wR, gJ_wI, up2, hz, Nat.add_assoc, hK]) ⟨by decide, by decide⟩ rfl rfl rfl ?_
  refine x_aload_n dX5_init_35 rfl ?_
  refine x_bipush (v := nI 74) dX5_init_36 (by decide) ?_
  refine x_newa 20 _ hO dX5_init_38 ⟨by decide, by decide⟩ rfl ac_int rfl (by decide) (by decide) (by decide) ?_
  simp only [gz_wO, gz_wR, gz_wI, hz, Nat.add_assoc, Nat.reduceAdd]
  refine x_putR (r := some _) 7 hO dX5_init_40 f_X5_22 (fw_7_9) (by simp [gz_wO, gz_wR, gz_wI, gK_wO, gK_wR, gK_wI, gN_wO, gN_wR, gN_wI, gI_wO, gI_wR, gI_wI, gR_wO, gR_wR, gR_wI, gJ_wO, gJ_wR, gJ_wI, up2, hz, Nat.add_assoc, hK]) ⟨by decide, by decide⟩ rfl rfl rfl ?_
  refine x_aload_n dX5_init_43 rfl ?_
  refine x_sipush (v := nI 1036) dX5_init_44 (by decide) ?_
  refine x_newa 20 _ hO dX5_init_47 ⟨by decide, by decide⟩ rfl ac_int rfl (by decide) (by decide) (by decide) ?_
  simp only [gz_wO, gz_wR, gz_wI, hz, Nat.add_assoc, Nat.reduceAdd]
  refine x_putR (r := some _) 7 hO dX5_init_49 f_X5_25 (fw_7_10) (by simp [gz_wO, gz_wR, gz_wI, gK_wO, gK_wR, gK_wI, gN_wO, gN_wR, gN_wI, gI_wO, gI_wR, gI_wI, gR_wO, gR_wR, gR_wI, gJ_wO, gJ_wR, gJ_wI, up2, hz, Nat.add_assoc, hK]) ⟨by decide, by decide⟩ rfl rfl rfl ?_
  refine x_aload_n dX5_init_52 rfl ?_
  refine x_sipush (v := nI 148) dX5_init_53 (by decide) ?_
  refine x_newa 20 _ hO dX5_init_56 ⟨by decide, by decide⟩ rfl ac_int rfl (by decide) (by decide) (by decide) ?_
  simp only [gz_wO, gz_wR, gz_wI, hz, Nat.add_assoc, Nat.reduceAdd]
  refine x_putR (r := some _) 7 hO dX5_init_58 f_X5_28 (fw_7_12) (by simp [gz_wO, gz_wR, gz_wI, gK_wO, gK_wR, gK_wI, gN_wO, gN_wR, gN_wI, gI_wO, gI_wR, gI_wI, gR_wO, gR_wR, gR_wI, gJ_wO, gJ_wR, gJ_wI, up2, hz, Nat.add_assoc, hK]) ⟨by decide, by decide⟩ rfl rfl rfl ?_
  refine x_aload_n dX5_init_61 rfl ?_
  refine x_iconst (v := nI 2) dX5_init_62 (by decide) ?_
  refine x_newa 21 _ hO dX5_init_63 ⟨by decide, by decide⟩ rfl ac_boolean rfl (by decide) (by decide) (by decide) ?_
  simp only [gz_wO, gz_wR, gz_wI, hz, Nat.add_assoc, Nat.reduceAdd]
  refine x_putR (r := some _) 7 hO dX5_init_65 f_X5_31 (fw_7_13) (by simp [gz_wO, gz_wR, gz_wI, gK_wO, gK_wR, gK_wI, gN_wO, gN_wR, gN_wI, gI_wO, gI_wR, gI_wI, gR_wO, gR_wR, gR_wI, gJ_wO, gJ_wR, gJ_wI, up2, hz, Nat.add_assoc, hK]) ⟨by decide, by decide⟩ rfl rfl rfl ?_
  refine x_aload_n dX5_init_68 rfl ?_
  refine x_iconst (v := nI 5) dX5_init_69 (by decide) ?_
  refine x_newa 20 _ hO dX5_init_70 ⟨by decide, by decide⟩ rfl ac_int rfl (by decide) (by decide) (by decide) ?_
  simp only [gz_wO, gz_wR, gz_wI, hz, Nat.add_assoc, Nat.reduceAdd]
  refine x_putR (r := some _) 7 hO dX5_init_72 f_X5_35 (fw_7_14) (by simp [gz_wO, gz_wR, gz_wI, gK_wO, gK_wR, gK_wI, gN_wO, gN_wR, gN_wI, gI_wO, gI_wR, gI_wI, gR_wO, gR_wR, gR_wI, gJ_wO, gJ_wR, gJ_wI, up2, hz, Nat.add_assoc, hK]) ⟨by decide, by decide⟩ rfl rfl rfl ?_
  refine x_aload_n dX5_init_75 rfl ?_
  refine x_iconst (v := nI 5) dX5_init_76 (by decide) ?_
  refine x_newa 20 _ hO dX5_init_77 ⟨by decide, by decide⟩ rfl ac_int rfl (by decide) (by decide) (by decide) ?_
  simp only [gz_wO, gz_wR, gz_wI, hz, Nat.add_assoc, Nat.reduceAdd]
  refine x_putR (r := some _) 7 hO dX5_init_79 f_X5_38 (fw_7_15) (by simp [gz_wO, gz_wR, gz_wI, gK_wO, gK_wR, gK_wI, gN_wO, gN_wR, gN_wI, gI_wO, gI_wR, gI_wI, gR_wO, gR_wR, gR_wI, gJ_wO, gJ_wR, gJ_wI, up2, hz, Nat.add_assoc, hK]) ⟨by decide, by decide⟩ rfl rfl rfl ?_
  refine x_aload_n dX5_init_82 rfl ?_
  refine x_bipush (v := nI 8) dX5_init_83 (by decide) ?_
  refine x_newa 20 _ hO dX5_init_85 ⟨by decide, by decide⟩ rfl ac_int rfl (by decide) (by decide) (by decide) ?_
  simp only [gz_wO, gz_wR, gz_wI, hz, Nat.add_assoc, Nat.reduceAdd]
  refine x_putR (r := some _) 7 hO dX5_init_87 f_X5_41 (fw_7_16) (by simp [gz_wO, gz_wR, gz_wI, gK_wO, gK_wR, gK_wI, gN_wO, gN_wR, gN_wI, gI_wO, gI_wR, gI_wI, gR_wO, gR_wR, gR_wI, gJ_wO, gJ_wR, gJ_wI, up2, hz, Nat.add_assoc, hK]) ⟨by decide, by decide⟩ rfl rfl rfl ?_
  refine x_aload_n dX5_init_90 rfl ?_
  refine x_bipush (v := nI 8) dX5_init_91 (by decide) ?_
  refine x_newa 20 _ hO dX5_init_93 ⟨by decide, by decide⟩ rfl ac_int rfl (by decide) (by decide) (by decide) ?_
  simp only [gz_wO, gz_wR, gz_wI, hz, Nat.add_assoc, Nat.reduceAdd]
  refine x_putR (r := some _) 7 hO dX5_init_95 f_X5_44 (fw_7_17) (by simp [gz_wO, gz_wR, gz_wI, gK_wO, gK_wR, gK_wI, gN_wO, gN_wR, gN_wI, gI_wO, gI_wR, gI_wI, gR_wO, gR_wR, gR_wI, gJ_wO, gJ_wR, gJ_wI, up2, hz, Nat.add_assoc, hK]) ⟨by decide, by decide⟩ rfl rfl rfl ?_
  refine x_aload_n dX5_init_98 rfl ?_
  refine x_bipush (v := nI 8) dX5_init_99 (by decide) ?_
  refine x_newa 21 _ hO dX5_init_101 ⟨by decide, by decide⟩ rfl ac_boolean rfl (by decide) (by decide) (by decide) ?_
  simp only [gz_wO, gz_wR, gz_wI, hz, Nat.add_assoc, Nat.reduceAdd]
  refine x_putR (r := some _) 7 hO dX5_init_103 f_X5_47 (fw_7_18) (by simp [gz_wO, gz_wR, gz_wI, gK_wO, gK_wR, gK_wI, gN_wO, gN_wR, gN_wI, gI_wO, gI_wR, gI_wI, gR_wO, gR_wR, gR_wI, gJ_wO, gJ_wR, gJ_wI, up2, hz, Nat.add_assoc, hK]) ⟨by decide, by decide⟩ rfl rfl rfl ?_
  refine x_ls [(0, .ref m)] ⟨rfl, trivial⟩ ?_
  refine fin _ ?_ ?_ ?_ ?_ ?_
  · simp [gz_wO, gz_wR, gz_wI, gK_wO, gK_wR, gK_wI, gN_wO, gN_wR, gN_wI, gI_wO, gI_wR, gI_wI, gR_wO, gR_wR, gR_wI, gJ_wO, gJ_wR, gJ_wI, up2, hz, Nat.add_assoc, hK]
  · refine ⟨?_, ⟨?_, ?_, ?_, ?_, ?_, ?_, ?_, ?_, ?_, ?_, ?_, ?_, ?_⟩, ⟨?_, ?_⟩, ⟨?_, ?_⟩, ⟨?_, ?_⟩, ⟨?_, ?_⟩, ⟨?_, ?_⟩, ⟨?_, ?_⟩, ⟨?_, ?_⟩, ⟨?_, ?_⟩, ⟨?_, ?_⟩, ⟨?_, ?_⟩, ⟨?_, ?_⟩, ⟨?_, ?_⟩, ⟨?_, ?_⟩, ?_⟩ <;> simp [gz_wO, gz_wR, gz_wI, gK_wO, gK_wR, gK_wI, gN_wO, gN_wR, gN_wI, gI_wO, gI_wR, gI_wI, gR_wO, gR_wR, gR_wI, gJ_wO, gJ_wR, gJ_wI, up2, hz, Nat.add_assoc, hK]
  · intro j
    simp [gz_wO, gz_wR, gz_wI, gK_wO, gK_wR, gK_wI, gN_wO, gN_wR, gN_wI, gI_wO, gI_wR, gI_wI, gR_wO, gR_wR, gR_wI, gJ_wO, gJ_wR, gJ_wI, up2, hz, Nat.add_assoc, h0]
  · intro j
    simp [gz_wO, gz_wR, gz_wI, gK_wO, gK_wR, gK_wI, gN_wO, gN_wR, gN_wI, gI_wO, gI_wR, gI_wI, gR_wO, gR_wR, gR_wI, gJ_wO, gJ_wR, gJ_wI, up2, hz, Nat.add_assoc, h0]
  · intro a ha
    simp [gz_wO, gz_wR, gz_wI, gK_wO, gK_wR, gK_wI, gN_wO, gN_wR, gN_wI, gI_wO, gI_wR, gI_wI, gR_wO, gR_wR, gR_wI, gJ_wO, gJ_wR, gJ_wI, up2, hz, Nat.add_assoc, show ¬ (a = m) by omega, show ¬ (a = m + 1) by omega, show ¬ (a = m + 2) by omega, show ¬ (a = m + 3) by omega, show ¬ (a = m + 4) by omega, show ¬ (a = m + 5) by omega, show ¬ (a = m + 6) by omega, show ¬ (a = m + 7) by omega, show ¬ (a = m + 8) by omega, show ¬ (a = m + 9) by omega, show ¬ (a = m + 10) by omega, show ¬ (a = m + 11) by omega, show ¬ (a = m + 12) by omega, show ¬ (a = m + 13) by omega]

