/-! the constructor of the whole *)-/
theorem Sm_wR {C : AH} {b f c d : Nat} {v : Option Nat} (h : b < c ∨ d ≤ b) : Sm C (wR C (up2 (gR C) b f v)) c d := fun q h1 h2 => ⟨rfl, rfl, fun _ => rfl, fun j => by rw [gR_wR, up2_n (by omega)], fun _ => rfl⟩
theorem s_X4_init {G : GT} {C : AH} {Q : QT} {X : XT} {x : Nat} {sa va : Nat → Nat} (hO : GO G) (hX : GX G sa va) (hz0 : gz C = x + 1) (hK0 : gK C x = 6) (hq : ∀ C' : AH, gz C' = x + 255 → gK C' x = 6 → J1 C' x → J2 C' x → J3 C' x → J4 C' x → J5 C' x → J6 C' x → J7 C' x → J8 C' x → J9 C' x → Ag C C' x → Q none C') : Mt G M_X4_init [.ref x] C Q X := by
  refine Mt_of (by decide) (Nat.le_of_ble_eq_true rfl) ?_
  have st9 : ∀ (k n : Nat) (C1 : AH), 0 ≤ k → 0 ≤ n → (gz C1 = x + 255 ∧ gK C1 x = 6 ∧ J1 C1 x ∧ J2 C1 x ∧ J3 C1 x ∧ J4 C1 x ∧ J5 C1 x ∧ J6 C1 x ∧ J7 C1 x ∧ J8 C1 x ∧ J9 C1 x ∧ Ag C C1 x) → Ex G M_X4_init Q X k n 76 [(0, .ref x), (1, .int (nI 2))] [] C1 := by
    intro k n C1 hk hn hI
    obtain ⟨hz, hK, j1, j2, j3, j4, j5, j6, j7, j8, j9, hA⟩ := hI
    refine x_iload_n dX4_init_76 rfl ?_
    refine x_aload_n dX4_init_77 rfl ?_
    refine x_get 6 hO dX4_init_78 f_X4_30 (by first | (simp only [gK_wI]; assumption) | assumption) ⟨by decide, by decide⟩ (v := .ref (x + 201)) (congrArg va_rf j4.1) ?_
    refine x_alen 26 _ hO dX4_init_81 j4.2.1 ⟨by decide, by decide⟩ j4.2.2 ?_
    refine x_icmp_ge (tgt := 104) dX4_init_82 (by decide) (fun c82 => ?_) (fun c82 => ?_)
    · refine x_ret dX4_init_104 rfl ?_
      exact hq _ hz hK j1 j2 j3 j4 j5 j6 j7 j8 j9 hA
    · exact absurd (show nI 2 ≤ nI 2 by decide) c82
  have st8 : ∀ (k n : Nat) (C1 : AH), 13 ≤ k → 115 ≤ n → (gz C1 = x + 242 ∧ gK C1 x = 6 ∧ J1 C1 x ∧ J2 C1 x ∧ J3 C1 x ∧ J4 C1 x ∧ J5 C1 x ∧ J6 C1 x ∧ J7 C1 x ∧ J8 C1 x ∧ Ag C C1 x) → Ex G M_X4_init Q X k n 76 [(0, .ref x), (1, .int (nI 1))] [] C1 := by
    intro k n C1 hk hn hI
    obtain ⟨hz, hK, j1, j2, j3, j4, j5, j6, j7, j8, hA⟩ := hI
    refine x_iload_n dX4_init_76 rfl ?_
    refine x_aload_n dX4_init_77 rfl ?_
    refine x_get 6 hO dX4_init_78 f_X4_30 (by first | (simp only [gK_wI]; assumption) | assumption) ⟨by decide, by decide⟩ (v := .ref (x + 201)) (congrArg va_rf j4.1) ?_
    refine x_alen 26 _ hO dX4_init_81 j4.2.1 ⟨by decide, by decide⟩ j4.2.2 ?_
    refine x_icmp_ge (tgt := 104) dX4_init_82 (by decide) (fun c82 => ?_) (fun c82 => ?_)
    · exact absurd c82 (by decide)
    · refine x_aload_n dX4_init_85 rfl ?_
      refine x_get 6 hO dX4_init_86 f_X4_30 (by first | (simp only [gK_wI]; assumption) | assumption) ⟨by decide, by decide⟩ (v := .ref (x + 201)) (congrArg va_rf j4.1) ?_
      refine x_iload_n dX4_init_89 rfl ?_
      refine x_new 3 hO dX4_init_90 ⟨by decide, by decide⟩ rfl q_X4_16 in_X1 ini_X1 (by decide) (by omega) (by omega) ?_
      rw [hz]
      refine x_dup dX4_init_93 rfl ?_
      refine x_callI (As := []) hO dX4_init_94 o_X1_init rfl rfl i_X1_init l_X4_18 ⟨by decide, by decide⟩ ⟨show 12 ≤ k - 1 by omega, show 104 ≤ n - 11 by omega⟩ rfl rfl (Nat.le_of_ble_eq_true rfl) (s_X1_init (d := x + 242) hO hX (by rw [gz_wO, hz]) (by simp [gK_wO, hz]) (fun j => by simp [gI_wO, hz]) (fun C' e1 e2 e3 e4 => ?_))
      dsimp only [Option.toList, List.cons_append, List.nil_append]
      refine x_aast 26 1 2 hO dX4_init_97 ((Ag_trans (Ag_wO hz) e4 (Nat.le_refl _) (x + 201) (by omega)).1.trans j4.2.1) (Or.inr ⟨rfl, e2.1⟩) rfl ((Ag_trans (Ag_wO hz) e4 (Nat.le_refl _) (x + 201) (by omega)).2.1.trans j4.2.2) (by omega) (by decide) ?_
      refine x_iinc (v := nI 1) dX4_init_98 rfl (by decide) (by decide) ?_
      refine x_goto (tgt := 76) dX4_init_101 (by decide) ?_
      have T := Tr_of (b := x + 201) (f := 1) (v := x + 242) hz e4
      refine x_ls [(0, .ref x), (1, .int (nI 2))] ⟨rfl, (by rfl), trivial⟩ ?_
      refine st9 _ _ _ ?_ ?_ ⟨by rw [gz_wR, e1], T_K T (by omega) hK, T_J1 T (by omega) (by omega) j1, T_J2 T (by omega) (by omega) j2, T_J3 T (by omega) (by omega) j3, T_J4 T (by omega) (by omega) j4, T_J5 T (by omega) (by omega) j5, T_J6 T (by omega) (by omega) j6, T_J7 T (by omega) (by omega) j7, T_J8 T (by omega) (by omega) j8, ⟨T_W T (by omega), SkD_A e2 (Sm_wR (by omega))⟩, T_Ag T (by omega) (by omega) hA⟩
      · show 0 ≤ k - 1 - 12
        omega
      · show 0 ≤ n - 11 - 104
        omega
  have st7 : ∀ (k n : Nat) (C1 : AH), 26 ≤ k → 230 ≤ n → (gz C1 = x + 229 ∧ gK C1 x = 6 ∧ J1 C1 x ∧ J2 C1 x ∧ J3 C1 x ∧ J4 C1 x ∧ J5 C1 x ∧ J6 C1 x ∧ J7 C1 x ∧ Ag C C1 x) → Ex G M_X4_init Q X k n 76 [(0, .ref x), (1, .int (nI 0))] [] C1 := by
    intro k n C1 hk hn hI
    obtain ⟨hz, hK, j1, j2, j3, j4, j5, j6, j7, hA⟩ := hI
    refine x_iload_n dX4_init_76 rfl ?_
    refine x_aload_n dX4_init_77 rfl ?_
    refine x_get 6 hO dX4_init_78 f_X4_30 (by first | (simp only [gK_wI]; assumption) | assumption) ⟨by decide, by decide⟩ (v := .ref (x + 201)) (congrArg va_rf j4.1) ?_
    refine x_alen 26 _ hO dX4_init_81 j4.2.1 ⟨by decide, by decide⟩ j4.2.2 ?_
    refine x_icmp_ge (tgt := 104) dX4_init_82 (by decide) (fun c82 => ?_) (fun c82 => ?_)
    · exact absurd c82 (by decide)
    · refine x_aload_n dX4_init_85 rfl ?_
      refine x_get 6 hO dX4_init_86 f_X4_30 (by first | (simp only [gK_wI]; assumption) | assumption) ⟨by decide, by decide⟩ (v := .ref (x + 201)) (congrArg va_rf j4.1) ?_
      refine x_iload_n dX4_init_89 rfl ?_
      refine x_new 3 hO dX4_init_90 ⟨by decide, by decide⟩ rfl q_X4_16 in_X1 ini_X1 (by decide) (by omega) (by omega) ?_
      rw [hz]
      refine x_dup dX4_init_93 rfl ?_
      refine x_callI (As := []) hO dX4_init_94 o_X1_init rfl rfl i_X1_init l_X4_18 ⟨by decide, by decide⟩ ⟨show 12 ≤ k - 1 by omega, show 104 ≤ n - 11 by omega⟩ rfl rfl (Nat.le_of_ble_eq_true rfl) (s_X1_init (d := x + 229) hO hX (by rw [gz_wO, hz]) (by simp [gK_wO, hz]) (fun j => by simp [gI_wO, hz]) (fun C' e1 e2 e3 e4 => ?_))
      dsimp only [Option.toList, List.cons_append, List.nil_append]
      refine x_aast 26 0 2 hO dX4_init_97 ((Ag_trans (Ag_wO hz) e4 (Nat.le_refl _) (x + 201) (by omega)).1.trans j4.2.1) (Or.inr ⟨rfl, e2.1⟩) rfl ((Ag_trans (Ag_wO hz) e4 (Nat.le_refl _) (x + 201) (by omega)).2.1.trans j4.2.2) (by omega) (by decide) ?_
      refine x_iinc (v := nI 1) dX4_init_98 rfl (by decide) (by decide) ?_
      refine x_goto (tgt := 76) dX4_init_101 (by decide) ?_
      have T := Tr_of (b := x + 201) (f := 0) (v := x + 229) hz e4
      refine x_ls [(0, .ref x), (1, .int (nI 1))] ⟨rfl, (by rfl), trivial⟩ ?_
      refine st8 _ _ _ ?_ ?_ ⟨by rw [gz_wR, e1], T_K T (by omega) hK, T_J1 T (by omega) (by omega) j1, T_J2 T (by omega) (by omega) j2, T_J3 T (by omega) (by omega) j3, T_J4 T (by omega) (by omega) j4, T_J5 T (by omega) (by omega) j5, T_J6 T (by omega) (by omega) j6, T_J7 T (by omega) (by omega) j7, ⟨T_W T (by omega), SkD_A e2 (Sm_wR (by omega))⟩, T_Ag T (by omega) (by omega) hA⟩
      · show 13 ≤ k - 1 - 12
        omega
      · show 115 ≤ n - 11 - 104
        omega
  have st6 : ∀ (k n : Nat) (C1 : AH), 39 ≤ k → 345 ≤ n → (gz C1 = x + 216 ∧ gK C1 x = 6 ∧ J1 C1 x ∧ J2 C1 x ∧ J3 C1 x ∧ J4 C1 x ∧ J5 C1 x ∧ J6 C1 x ∧ Ag C C1 x) → Ex G M_X4_init Q X k n 63 [(0, .ref x)] [] C1 := by
    intro k n C1 hk hn hI
    obtain ⟨hz, hK, j1, j2, j3, j4, j5, j6, hA⟩ := hI
    refine x_aload_n dX4_init_63 rfl ?_
    refine x_new 3 hO dX4_init_64 ⟨by decide, by decide⟩ rfl q_X4_16 in_X1 ini_X1 (by decide) (by omega) (by omega) ?_
    rw [hz]
    refine x_dup dX4_init_67 rfl ?_
    refine x_callI (As := []) hO dX4_init_68 o_X1_init rfl rfl i_X1_init l_X4_18 ⟨by decide, by decide⟩ ⟨show 12 ≤ k - 1 by omega, show 104 ≤ n - 11 by omega⟩ rfl rfl (Nat.le_of_ble_eq_true rfl) (s_X1_init (d := x + 216) hO hX (by rw [gz_wO, hz]) (by simp [gK_wO, hz]) (fun j => by simp [gI_wO, hz]) (fun C' e1 e2 e3 e4 => ?_))
    dsimp only [Option.toList, List.cons_append, List.nil_append]
    refine x_putR (r := some _) 6 hO dX4_init_71 f_X4_41 (fw_6_6) ((Ag_trans (Ag_wO hz) e4 (Nat.le_refl _) x (by omega)).1.trans hK) ⟨by decide, by decide⟩ rfl rfl rfl ?_
    refine x_iconst (v := nI 0) dX4_init_74 (by decide) ?_
    refine x_istore_n dX4_init_75 (by decide) ?_
    have T := Tr_of (b := x) (f := 6) (v := x + 216) hz e4
    refine x_ls [(0, .ref x), (1, .int (nI 0))] ⟨rfl, (by rfl), trivial⟩ ?_
    refine st7 _ _ _ ?_ ?_ ⟨by rw [gz_wR, e1], T_K T (by omega) hK, T_J1 T (by omega) (by omega) j1, T_J2 T (by omega) (by omega) j2, T_J3 T (by omega) (by omega) j3, T_J4 T (by omega) (by omega) j4, T_J5 T (by omega) (by omega) j5, T_J6 T (by omega) (by omega) j6, ⟨T_W T (by omega), SkD_A e2 (Sm_wR (by omega))⟩, T_Ag T (by omega) (by omega) hA⟩
    · show 26 ≤ k - 1 - 12
      omega
    · show 230 ≤ n - 11 - 104
      omega
  have st5 : ∀ (k n : Nat) (C1 : AH), 52 ≤ k → 460 ≤ n → (gz C1 = x + 203 ∧ gK C1 x = 6 ∧ J1 C1 x ∧ J2 C1 x ∧ J3 C1 x ∧ J4 C1 x ∧ J5 C1 x ∧ Ag C C1 x) → Ex G M_X4_init Q X k n 52 [(0, .ref x)] [] C1 := by
    intro k n C1 hk hn hI
    obtain ⟨hz, hK, j1, j2, j3, j4, j5, hA⟩ := hI
    refine x_aload_n dX4_init_52 rfl ?_
    refine x_new 3 hO dX4_init_53 ⟨by decide, by decide⟩ rfl q_X4_16 in_X1 ini_X1 (by decide) (by omega) (by omega) ?_
    rw [hz]
    refine x_dup dX4_init_56 rfl ?_
    refine x_callI (As := []) hO dX4_init_57 o_X1_init rfl rfl i_X1_init l_X4_18 ⟨by decide, by decide⟩ ⟨show 12 ≤ k - 1 by omega, show 104 ≤ n - 11 by omega⟩ rfl rfl (Nat.le_of_ble_eq_true rfl) (s_X1_init (d := x + 203) hO hX (by rw [gz_wO, hz]) (by simp [gK_wO, hz]) (fun j => by simp [gI_wO, hz]) (fun C' e1 e2 e3 e4 => ?_))
    dsimp only [Option.toList, List.cons_append, List.nil_append]
    refine x_putR (r := some _) 6 hO dX4_init_60 f_X4_38 (fw_6_5) ((Ag_trans (Ag_wO hz) e4 (Nat.le_refl _) x (by omega)).1.trans hK) ⟨by decide, by decide⟩ rfl rfl rfl ?_
    have T := Tr_of (b := x) (f := 5) (v := x + 203) hz e4
    refine x_ls [(0, .ref x)] ⟨rfl, trivial⟩ ?_
    refine st6 _ _ _ ?_ ?_ ⟨by rw [gz_wR, e1], T_K T (by omega) hK, T_J1 T (by omega) (by omega) j1, T_J2 T (by omega) (by omega) j2, T_J3 T (by omega) (by omega) j3, T_J4 T (by omega) (by omega) j4, T_J5 T (by omega) (by omega) j5, ⟨T_W T (by omega), SkD_A e2 (Sm_wR (by omega))⟩, T_Ag T (by omega) (by omega) hA⟩
    · show 39 ≤ k - 1 - 12
      omega
    · show 345 ≤ n - 11 - 104
      omega
  have st4 : ∀ (k n : Nat) (C1 : AH), 53 ≤ k → 462 ≤ n → (gz C1 = x + 202 ∧ gK C1 x = 6 ∧ J1 C1 x ∧ J2 C1 x ∧ J3 C1 x ∧ J4 C1 x ∧ Ag C C1 x) → Ex G M_X4_init Q X k n 45 [(0, .ref x)] [] C1 := by
    intro k n C1 hk hn hI
    obtain ⟨hz, hK, j1, j2, j3, j4, hA⟩ := hI
    refine x_aload_n dX4_init_45 rfl ?_
    refine x_iconst (v := nI 2) dX4_init_46 (by decide) ?_
    refine x_newa 21 _ hO dX4_init_47 ⟨by decide, by decide⟩ rfl ac_boolean rfl (by decide) (by omega) (by omega) ?_
    rw [hz]
    refine x_putR (r := some _) 6 hO dX4_init_49 f_X4_34 (fw_6_4) ((Ag_wO (κ := 21) (n := 2) hz x (by omega)).1.trans hK) ⟨by decide, by decide⟩ rfl rfl rfl ?_
    have T := Tr_of (C' := wO C1 21 2) (κ := 21) (n := 2) (b := x) (f := 4) (v := x + 202) hz Ag_refl
    refine x_ls [(0, .ref x)] ⟨rfl, trivial⟩ ?_
    refine st5 _ _ _ ?_ ?_ ⟨by rw [gz_wR, gz_wO, hz], T_K T (by omega) hK, T_J1 T (by omega) (by omega) j1, T_J2 T (by omega) (by omega) j2, T_J3 T (by omega) (by omega) j3, T_J4 T (by omega) (by omega) j4, ⟨T_W T (by omega), by simp [gK_wR, gK_wO, hz], by simp [gN_wR, gN_wO, hz], fun j => by simp [gI_wR, gI_wO, hz]⟩, T_Ag T (by omega) (by omega) hA⟩
    · show 52 ≤ k - 1
      omega
    · show 460 ≤ n - 2
      omega
  have st3 : ∀ (k n : Nat) (C1 : AH), 54 ≤ k → 464 ≤ n → (gz C1 = x + 201 ∧ gK C1 x = 6 ∧ J1 C1 x ∧ J2 C1 x ∧ J3 C1 x ∧ Ag C C1 x) → Ex G M_X4_init Q X k n 37 [(0, .ref x)] [] C1 := by
    intro k n C1 hk hn hI
    obtain ⟨hz, hK, j1, j2, j3, hA⟩ := hI
    refine x_aload_n dX4_init_37 rfl ?_
    refine x_iconst (v := nI 2) dX4_init_38 (by decide) ?_
    refine x_anew 26 _ hO dX4_init_39 (by decide) rfl q_X4_16 (ao_X1 hO) rfl (by decide) (by omega) (by omega) ?_
    rw [hz]
    refine x_putR (r := some _) 6 hO dX4_init_42 f_X4_30 (fw_6_3) ((Ag_wO (κ := 26) (n := 2) hz x (by omega)).1.trans hK) ⟨by decide, by decide⟩ rfl rfl rfl ?_
    have T := Tr_of (C' := wO C1 26 2) (κ := 26) (n := 2) (b := x) (f := 3) (v := x + 201) hz Ag_refl
    refine x_ls [(0, .ref x)] ⟨rfl, trivial⟩ ?_
    refine st4 _ _ _ ?_ ?_ ⟨by rw [gz_wR, gz_wO, hz], T_K T (by omega) hK, T_J1 T (by omega) (by omega) j1, T_J2 T (by omega) (by omega) j2, T_J3 T (by omega) (by omega) j3, ⟨T_W T (by omega), by simp [gK_wR, gK_wO, hz], by simp [gN_wR, gN_wO, hz]⟩, T_Ag T (by omega) (by omega) hA⟩
    · show 53 ≤ k - 1
      omega
    · show 462 ≤ n - 2
      omega
  have st2 : ∀ (k n : Nat) (C1 : AH), 238 ≤ k → 2090 ≤ n → (gz C1 = x + 17 ∧ gK C1 x = 6 ∧ J1 C1 x ∧ J2 C1 x ∧ Ag C C1 x) → Ex G M_X4_init Q X k n 26 [(0, .ref x)] [] C1 := by
    intro k n C1 hk hn hI
    obtain ⟨hz, hK, j1, j2, hA⟩ := hI
    refine x_aload_n dX4_init_26 rfl ?_
    refine x_new 4 hO dX4_init_27 ⟨by decide, by decide⟩ rfl q_X4_23 in_X2 ini_X2 (by decide) (by omega) (by omega) ?_
    rw [hz]
    refine x_dup dX4_init_30 rfl ?_
    refine x_callI (As := []) hO dX4_init_31 o_X2_init rfl rfl i_X2_init l_X4_25 ⟨by decide, by decide⟩ ⟨show 183 ≤ k - 1 by omega, show 1624 ≤ n - 2 by omega⟩ rfl rfl (Nat.le_of_ble_eq_true rfl) (s_X2_init (h := x + 17) hO hX (by rw [gz_wO, hz]) (by simp [gK_wO, hz]) (fun j => by simp [gI_wO, hz]) (fun C' e1 e2 e3 e4 => ?_))
    dsimp only [Option.toList, List.cons_append, List.nil_append]
    refine x_putR (r := some _) 6 hO dX4_init_34 f_X4_26 (fw_6_2) ((Ag_trans (Ag_wO hz) e4 (Nat.le_refl _) x (by omega)).1.trans hK) ⟨by decide, by decide⟩ rfl rfl rfl ?_
    have T := Tr_of (b := x) (f := 2) (v := x + 17) hz e4
    refine x_ls [(0, .ref x)] ⟨rfl, trivial⟩ ?_
    refine st3 _ _ _ ?_ ?_ ⟨by rw [gz_wR, e1], T_K T (by omega) hK, T_J1 T (by omega) (by omega) j1, T_J2 T (by omega) (by omega) j2, ⟨T_W T (by omega), HiS_A e2 (Sm_wR (by omega)), HiV_A e2 e3 (Sm_wR (by omega))⟩, T_Ag T (by omega) (by omega) hA⟩
    · show 54 ≤ k - 1 - 183
      omega
    · show 464 ≤ n - 2 - 1624
      omega
  have st1 : ∀ (k n : Nat) (C1 : AH), 251 ≤ k → 2205 ≤ n → (gz C1 = x + 4 ∧ gK C1 x = 6 ∧ J1 C1 x ∧ Ag C C1 x) → Ex G M_X4_init Q X k n 15 [(0, .ref x)] [] C1 := by
    intro k n C1 hk hn hI
    obtain ⟨hz, hK, j1, hA⟩ := hI
    refine x_aload_n dX4_init_15 rfl ?_
    refine x_new 3 hO dX4_init_16 ⟨by decide, by decide⟩ rfl q_X4_16 in_X1 ini_X1 (by decide) (by omega) (by omega) ?_
    rw [hz]
    refine x_dup dX4_init_19 rfl ?_
    refine x_callI (As := []) hO dX4_init_20 o_X1_init rfl rfl i_X1_init l_X4_18 ⟨by decide, by decide⟩ ⟨show 12 ≤ k - 1 by omega, show 104 ≤ n - 11 by omega⟩ rfl rfl (Nat.le_of_ble_eq_true rfl) (s_X1_init (d := x + 4) hO hX (by rw [gz_wO, hz]) (by simp [gK_wO, hz]) (fun j => by simp [gI_wO, hz]) (fun C' e1 e2 e3 e4 => ?_))
    dsimp only [Option.toList, List.cons_append, List.nil_append]
    refine x_putR (r := some _) 6 hO dX4_init_23 f_X4_19 (fw_6_1) ((Ag_trans (Ag_wO hz) e4 (Nat.le_refl _) x (by omega)).1.trans hK) ⟨by decide, by decide⟩ rfl rfl rfl ?_
    have T := Tr_of (b := x) (f := 1) (v := x + 4) hz e4
    refine x_ls [(0, .ref x)] ⟨rfl, trivial⟩ ?_
    refine st2 _ _ _ ?_ ?_ ⟨by rw [gz_wR, e1], T_K T (by omega) hK, T_J1 T (by omega) (by omega) j1, ⟨T_W T (by omega), SkD_A e2 (Sm_wR (by omega)), VaD_A Ok_new.1 e3 (Sm_wR (by omega))⟩, T_Ag T (by omega) (by omega) hA⟩
    · show 238 ≤ k - 1 - 12
      omega
    · show 2090 ≤ n - 11 - 104
      omega
  have st0 : ∀ (k n : Nat) (C1 : AH), 254 ≤ k → 2335 ≤ n → (gz C1 = x + 1 ∧ gK C1 x = 6 ∧ Ag C C1 x) → Ex G M_X4_init Q X k n 4 [(0, .ref x)] [] C1 := by
    intro k n C1 hk hn hI
    obtain ⟨hz, hK, hA⟩ := hI
    refine x_aload_n dX4_init_4 rfl ?_
    refine x_new 5 hO dX4_init_5 ⟨by decide, by decide⟩ rfl q_X4_9 in_X3 ini_X3 (by decide) (by omega) (by omega) ?_
    rw [hz]
    refine x_dup dX4_init_8 rfl ?_
    refine x_callIN (As := []) hO dX4_init_9 o_X3_init rfl rfl i_X3_init (n_X4_11 hO) ⟨by decide, by decide⟩ ⟨show 2 ≤ k - 1 by omega, show 125 ≤ n - 5 by omega⟩ rfl rfl (Nat.le_of_ble_eq_true rfl) (s_X3_init (t := x + 1) hO (by rw [gz_wO, hz]) (by simp [gK_wO, hz]) (fun j => by simp [gI_wO, hz]) (fun C' e1 e2 e3 e4 => ?_))
    dsimp only [Option.toList, List.cons_append, List.nil_append]
    refine x_putR (r := some _) 6 hO dX4_init_12 f_X4_12 (fw_6_0) ((Ag_trans (Ag_wO hz) e4 (Nat.le_refl _) x (by omega)).1.trans hK) ⟨by decide, by decide⟩ rfl rfl rfl ?_
    have T := Tr_of (b := x) (f := 0) (v := x + 1) hz e4
    refine x_ls [(0, .ref x)] ⟨rfl, trivial⟩ ?_
    refine st1 _ _ _ ?_ ?_ ⟨by rw [gz_wR, e1], T_K T (by omega) hK, ⟨T_W T (by omega), TxS_A e2 (Sm_wR (by omega)), TxV_A e3 (Sm_wR (by omega))⟩, T_Ag T (by omega) (by omega) hA⟩
    · show 251 ≤ k - 1 - 2
      omega
    · show 2205 ≤ n - 5 - 125
      omega
  refine x_aload_n dX4_init_0 rfl ?_
  refine x_objI hO dX4_init_1 l_X4_3 i_obj c_obj ⟨by decide, by decide⟩ (Nat.le_of_ble_eq_true rfl) ?_
  refine x_ls [(0, .ref x)] ⟨rfl, trivial⟩ ?_
  exact st0 _ _ C (by decide) (by decide) ⟨hz0, hK0, Ag_refl⟩

