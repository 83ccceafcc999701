/-! a depot: the charging, the hours *)-/
theorem s_chargeBuses {G : GT} {C : AH} {Q : QT} {X : XT} {d : Nat} {ρ : Rw} {g : Nat → Nat} (hO : GO G) (hS : SkD C d) (hV : VaD (gI C) d ρ) (hW : Wf ρ) (hb0 : ρ 0 < 1000000) (hu0 : ∀ b, b < ρ 1 → gI C (d + 5 + b) 9 = nI (g b)) (hq : ∀ f : Nat → Nat → Int32, VaD f d (itB (chg (pric ρ) g) (ρ 1) ρ) → (∀ a : Nat, a < d ∨ d + 13 ≤ a → f a = gI C a) → Q none (wI C f)) : Mt G M_X1_chargeBuses [.ref d] C Q X := by
  refine Mt_of (by decide) (Nat.le_of_ble_eq_true rfl) ?_
  obtain ⟨s0, s1, s2, s3, v4, v5, v6, v7, v8, v9, v10⟩ := SkD_f hS hV
  obtain ⟨hK, -, -, -, -, k1, n1, k2, n2, k3, n3, k4, n4, hbus⟩ := id hS
  obtain ⟨w1, w2, w7, w8, w9, w10, w11, w11', w12, wB, wP⟩ := id hW
  have vb := hV.2.2.2.2.2.2.2.2.1
  have loop : ∀ (m b : Nat) (f : Nat → Nat → Int32), ρ 1 - b = m → b ≤ ρ 1 → VaD f d (itB (chg (pric ρ) g) b ρ) → (∀ b, b < ρ 1 → f (d + 5 + b) 9 = nI (g b)) → (∀ a : Nat, a < d ∨ d + 13 ≤ a → f a = gI C a) → Ex G M_X1_chargeBuses Q X (mC M_X1_chargeBuses) (mS M_X1_chargeBuses) 20 [(0, .ref d), (1, .int (nI (pric ρ))), (2, .int (nI b))] [] (wI C f) := by
    intro m
    induction m using Nat.strongRecOn with
    | _ m ih =>
    intro b f hm hb9 hVf hu hfr
    obtain ⟨s0, s1, s2, s3, v4, v5, v6, v7, v8, v9, v10⟩ := SkD_f (C := wI C f) hS hVf
    have h1b : itB (chg (pric ρ) g) b ρ 1 = ρ 1 := chg_all.2.2.2 1 (fun c _ => by simp only [bi]; omega) (by omega) (by omega)
    have vb := hVf.2.2.2.2.2.2.2.2.1
    rw [h1b] at vb
    refine x_iload_n dX1_chargeBuses_20 rfl ?_
    refine x_aload_n dX1_chargeBuses_21 rfl ?_
    refine x_get 3 hO dX1_chargeBuses_22 f_X1_37 (by assumption) ⟨by decide, by decide⟩ (v := .int (nI (itB (chg (pric ρ) g) b ρ 1))) v4 ?_
    refine x_icmp_ge (tgt := 82) dX1_chargeBuses_25 (by decide) (fun c25 => ?_) (fun c25 => ?_)
    · skip
      refine x_ret dX1_chargeBuses_82 rfl ?_
      rw [h1b] at c25
      simp (disch := omega) only [nI_leI] at c25
      have : b = ρ 1 := by omega
      subst this
      exact hq f hVf hfr
    · rw [h1b] at c25
      simp (disch := omega) only [nI_leI] at c25
      have hb8 : b < ρ 1 := by omega
      have kb : gK C (d + 5 + b) = 2 := (hbus b (by omega)).2
      refine x_aload_n dX1_chargeBuses_28 rfl ?_
      refine x_get 3 hO dX1_chargeBuses_29 f_X1_11 (by assumption) ⟨by decide, by decide⟩ (v := .ref (d + 1)) s0 ?_
      refine x_iload_n dX1_chargeBuses_32 rfl ?_
      refine x_aald 25 _ _ hO dX1_chargeBuses_33 (by assumption) (by decide) rfl (by assumption) (by omega) (by decide) ?_
      rw [show gR (wI C f) (d + 1) b = some (d + 5 + b) from (hbus b (by omega)).1]
      refine x_astore_n (x := d + 5 + b) dX1_chargeBuses_34 (by decide) ?_
      refine x_aload_n dX1_chargeBuses_35 rfl ?_
      refine x_dup dX1_chargeBuses_36 rfl ?_
      refine x_get 2 hO dX1_chargeBuses_37 f_X1_79 (by assumption) ⟨by decide, by decide⟩ (v := .int _) rfl ?_
      refine x_aload_n dX1_chargeBuses_40 rfl ?_
      refine x_get 2 hO dX1_chargeBuses_41 f_X1_183 (by assumption) ⟨by decide, by decide⟩ (v := .int _) rfl ?_
      refine x_iadd dX1_chargeBuses_44 ?_
      refine x_putI 2 hO dX1_chargeBuses_45 f_X1_79 (fw_2_1 _) (by assumption) ⟨by decide, by decide⟩ rfl rfl ?_
      refine x_aload_n dX1_chargeBuses_48 rfl ?_
      refine x_dup dX1_chargeBuses_49 rfl ?_
      refine x_get 3 hO dX1_chargeBuses_50 f_X1_50 (by assumption) ⟨by decide, by decide⟩ (v := .int _) rfl ?_
      refine x_aload_n dX1_chargeBuses_53 rfl ?_
      refine x_get 2 hO dX1_chargeBuses_54 f_X1_183 (by assumption) ⟨by decide, by decide⟩ (v := .int _) rfl ?_
      refine x_iadd dX1_chargeBuses_57 ?_
      refine x_putI 3 hO dX1_chargeBuses_58 f_X1_50 (fw_3_8 _) (by assumption) ⟨by decide, by decide⟩ rfl rfl ?_
      refine x_aload_n dX1_chargeBuses_61 rfl ?_
      refine x_dup dX1_chargeBuses_62 rfl ?_
      refine x_get 3 hO dX1_chargeBuses_63 f_X1_47 (by assumption) ⟨by decide, by decide⟩ (v := .int _) rfl ?_
      refine x_aload_n dX1_chargeBuses_66 rfl ?_
      refine x_get 2 hO dX1_chargeBuses_67 f_X1_183 (by assumption) ⟨by decide, by decide⟩ (v := .int _) rfl ?_
      refine x_iload_n dX1_chargeBuses_70 rfl ?_
      refine x_imul dX1_chargeBuses_71 ?_
      refine x_iadd dX1_chargeBuses_72 ?_
      refine x_putI 3 hO dX1_chargeBuses_73 f_X1_47 (fw_3_7 _) (by assumption) ⟨by decide, by decide⟩ rfl rfl ?_
      refine x_iinc (v := nI 1) dX1_chargeBuses_76 rfl (by decide) (by decide) ?_
      refine x_goto (tgt := 20) dX1_chargeBuses_79 (by decide) ?_
      simp only [wI_wI, gI_wI, nI_add]
      refine x_ls [(0, .ref d), (1, .int (nI (pric ρ))), (2, .int (nI (b + 1)))] ⟨rfl, rfl, rfl, trivial⟩ ?_
      have hnd : ¬ (d = d + 5 + b) := by omega
      have hnd2 : ¬ (d + 5 + b = d) := by omega
      have hub := hu b hb8
      obtain ⟨c1, c4, c3⟩ := chg_is (price := pric ρ) (g := g) (b := b) (ρ := itB (chg (pric ρ) g) b ρ)
      refine ih (m - 1) (by omega) (b + 1) _ (by omega) (by omega) ?_ ?_ ?_
      · show VaD _ d (chg (pric ρ) g b (itB (chg (pric ρ) g) b ρ))
        refine VaD_step hVf (chg_o (by simp only [bi]; omega) (by omega) (by omega)) (chg_o (by simp only [bi]; omega) (by omega) (by omega)) (fun k hk => chg_o (by simp only [bi]; omega) (by omega) (by omega)) (fun c hc => chg_o (by simp only [bi]; omega) (by omega) (by omega)) ?_ ?_ ?_ ?_ ?_ ?_ ?_ ?_ ?_ ?_ ?_
        · funext q; simp [up2, show ¬ (d + 4 = d + 5 + b) by omega]
        · funext q; simp [up2, show ¬ (d + 2 = d + 5 + b) by omega]
        · funext q; simp [up2, show ¬ (d + 3 = d + 5 + b) by omega]
        · simp [up2, hnd]
        · simp [up2, hnd]
        · rw [chg_o (by simp only [bi]; omega) (by omega) (by omega), ← hVf.2.2.1]; simp [up2, hnd]
        · rw [c3, ← nI_add, ← pk_mul, ← hub, ← hVf.2.2.2.1]; simp [up2, hnd, hnd2]
        · rw [c4, ← nI_add, ← hub, ← hVf.2.2.2.2.1]; simp [up2, hnd, hnd2]
        · rw [chg_o (by simp only [bi]; omega) (by omega) (by omega), ← hVf.2.2.2.2.2.1]; simp [up2, hnd]
        · rw [chg_o (by simp only [bi]; omega) (by omega) (by omega), ← hVf.2.2.2.2.2.2.1]; simp [up2, hnd]
        · intro c hc w hw
          rw [h1b] at hc
          by_cases e : c = b ∧ w = 1
          · obtain ⟨rfl, rfl⟩ := e
            rw [c1, ← nI_add, ← hub, ← vb c hc 1 (by decide)]; simp [up2, hnd2]
          · rw [chg_o (by simp only [bi]; omega) (by simp only [bi]; omega) (by simp only [bi]; omega), ← vb c hc w hw, up2_n (by omega), up2_n (by omega), up2_n (by omega)]
      · intro c hc
        rw [up2_n (by omega), up2_n (by omega), up2_n (by omega)]
        exact hu c hc
      · intro a ha
        funext q
        rw [up2_n (by omega), up2_n (by omega), up2_n (by omega), hfr a ha]
  refine x_aload_n dX1_chargeBuses_0 rfl ?_
  refine x_get 3 hO dX1_chargeBuses_1 f_X1_24 (by assumption) ⟨by decide, by decide⟩ (v := .ref (d + 4)) s3 ?_
  refine x_aload_n dX1_chargeBuses_4 rfl ?_
  refine x_callV (As := []) 3 hO dX1_chargeBuses_5 o_X1_isNight v_X1_isNight l_X1_170 ⟨by decide, by decide⟩ (by assumption) ⟨by decide, by decide⟩ rfl ⟨by decide, by decide⟩ rfl rfl (Nat.le_of_ble_eq_true rfl) (s_isNight hO hS hV hW hb0 (fun r5 hr5 => ?_))
  dsimp only [Option.toList, List.cons_append, List.nil_append]
  refine x_if_eq (tgt := 15) dX1_chargeBuses_8 (by decide) (fun c8 => ?_) (fun c8 => ?_)
  · have p5 := (ite01 hr5).1 c8
    refine x_iconst (v := nI 1) dX1_chargeBuses_15 (by decide) ?_
    refine x_iald _ _ hO dX1_chargeBuses_16 (by assumption) rfl (by assumption) (by omega) (by decide) ?_
    refine x_istore_n dX1_chargeBuses_17 (by decide) ?_
    refine x_iconst (v := nI 0) dX1_chargeBuses_18 (by decide) ?_
    refine x_istore_n dX1_chargeBuses_19 (by decide) ?_
    rw [show gI C (d + 4) 1 = nI (pric ρ) from (hV.2.2.2.2.2.2.2.1 1 (by decide)).trans (congrArg nI (show ρ 8 = pric ρ from (if_neg p5).symm))]
    refine x_ls [(0, .ref d), (1, .int (nI (pric ρ))), (2, .int (nI 0))] ⟨rfl, rfl, rfl, trivial⟩ ?_
    exact loop _ 0 (gI C) rfl (Nat.zero_le _) hV hu0 (fun _ _ => rfl)
  · have p5 := (ite01 hr5).2 c8
    refine x_iconst (v := nI 2) dX1_chargeBuses_11 (by decide) ?_
    refine x_goto (tgt := 16) dX1_chargeBuses_12 (by decide) ?_
    refine x_iald _ _ hO dX1_chargeBuses_16 (by assumption) rfl (by assumption) (by omega) (by decide) ?_
    refine x_istore_n dX1_chargeBuses_17 (by decide) ?_
    refine x_iconst (v := nI 0) dX1_chargeBuses_18 (by decide) ?_
    refine x_istore_n dX1_chargeBuses_19 (by decide) ?_
    rw [show gI C (d + 4) 2 = nI (pric ρ) from (hV.2.2.2.2.2.2.2.1 2 (by decide)).trans (congrArg nI (show ρ 9 = pric ρ from (if_pos p5).symm))]
    refine x_ls [(0, .ref d), (1, .int (nI (pric ρ))), (2, .int (nI 0))] ⟨rfl, rfl, rfl, trivial⟩ ?_
    exact loop _ 0 (gI C) rfl (Nat.zero_le _) hV hu0 (fun _ _ => rfl)

theorem s_passHours {G : GT} {C : AH} {Q : QT} {X : XT} {d : Nat} {ρ : Rw} {T n : Nat} (hO : GO G) (hS : SkD C d) (hV : VaD (gI C) d ρ) (hW : Wf ρ) (hB : Bd T 0 ρ) (hT : T + n ≤ 50000) (hq : ∀ f : Nat → Nat → Int32, VaD f d (runN n ρ) → (∀ a : Nat, a < d ∨ d + 13 ≤ a → f a = gI C a) → Q none (wI C f)) : Mt G M_X1_passHours [.ref d, .int (nI n)] C Q X := by
  refine Mt_of (by decide) (Nat.le_of_ble_eq_true rfl) ?_
  have hK := hS.1
  have loop : ∀ (m i : Nat) (f : Nat → Nat → Int32), n - i = m → i ≤ n → VaD f d (runN i ρ) → (∀ a : Nat, a < d ∨ d + 13 ≤ a → f a = gI C a) → Ex G M_X1_passHours Q X (mC M_X1_passHours) (mS M_X1_passHours) 2 [(0, .ref d), (1, .int (nI n)), (2, .int (nI i))] [] (wI C f) := by
    intro m
    induction m using Nat.strongRecOn with
    | _ m ih =>
    intro i f hm hi9 hVf hfr
    refine x_iload_n dX1_passHours_2 rfl ?_
    refine x_iload_n dX1_passHours_3 rfl ?_
    refine x_icmp_ge (tgt := 39) dX1_passHours_4 (by decide) (fun c4 => ?_) (fun c4 => ?_)
    · skip
      refine x_ret dX1_passHours_39 rfl ?_
      simp (disch := omega) only [nI_leI] at c4
      have : i = n := by omega
      subst this
      exact hq f hVf hfr
    · simp (disch := omega) only [nI_leI] at c4
      obtain ⟨hWi, hBi, h1i⟩ := runN_ok (n := i) hW hB
      have hr1 : runN (i + 1) ρ = hour1 (runN i ρ) := rfl
      generalize runN i ρ = ρi at hVf hWi hBi h1i hr1
      obtain ⟨t0, -, -, -, -, t5⟩ := hBi
      obtain ⟨hWm, hm1⟩ := Wf_mved hWi
      have hm0 : mved ρi 0 = ρi 0 := mved_0
      refine x_aload_n dX1_passHours_7 rfl ?_
      refine x_callV (As := []) 3 hO dX1_passHours_8 o_X1_moveBuses v_X1_moveBuses l_X1_146 ⟨by decide, by decide⟩ (by assumption) ⟨by decide, by decide⟩ rfl ⟨by decide, by decide⟩ rfl rfl (Nat.le_of_ble_eq_true rfl) (s_moveBuses (C := wI C f) hO hS hVf hWi (by omega) (fun b hb => by have := t5 b hb; omega) (fun f1 hV1 h1 => ?_))
      dsimp only [Option.toList, List.cons_append, List.nil_append]
      refine x_aload_n dX1_passHours_11 rfl ?_
      refine x_callV (As := []) 3 hO dX1_passHours_12 o_X1_lineUp v_X1_lineUp l_X1_149 ⟨by decide, by decide⟩ (by assumption) ⟨by decide, by decide⟩ rfl ⟨by decide, by decide⟩ rfl rfl (Nat.le_of_ble_eq_true rfl) (s_lineUp (C := wI (wI C f) f1) hO hS hV1 hWm (by omega) (fun f2 hV2 hp2 h2 => ?_))
      dsimp only [Option.toList, List.cons_append, List.nil_append]
      refine x_aload_n dX1_passHours_15 rfl ?_
      refine x_callV (As := []) 3 hO dX1_passHours_16 o_X1_plugIn v_X1_plugIn l_X1_152 ⟨by decide, by decide⟩ (by assumption) ⟨by decide, by decide⟩ rfl ⟨by decide, by decide⟩ rfl rfl (Nat.le_of_ble_eq_true rfl) (s_plugIn (C := wI (wI (wI C f) f1) f2) hO hS hV2 hWm hp2 (fun f3 hV3 hp3 h3 => ?_))
      dsimp only [Option.toList, List.cons_append, List.nil_append]
      refine x_aload_n dX1_passHours_19 rfl ?_
      refine x_callV (As := []) 3 hO dX1_passHours_20 o_X1_chargeBuses v_X1_chargeBuses l_X1_155 ⟨by decide, by decide⟩ (by assumption) ⟨by decide, by decide⟩ rfl ⟨by decide, by decide⟩ rfl rfl (Nat.le_of_ble_eq_true rfl) (s_chargeBuses (C := wI (wI (wI (wI C f) f1) f2) f3) (g := (lay (mved ρi)).2.2.1) hO hS hV3 hWm (by omega) (fun b hb => (hp3 b hb).2.2) (fun f4 hV4 h4 => ?_))
      dsimp only [Option.toList, List.cons_append, List.nil_append]
      rw [hm1] at hV4
      have e46 : f4 d 6 = nI (ρi 0) := by
        rw [hV4.2.2.1]
        refine congrArg nI ?_
        rw [chg_all.2.2.2 0 (fun c _ => by simp only [bi]; omega) (by omega) (by omega), hm0]
      refine x_aload_n dX1_passHours_23 rfl ?_
      refine x_dup dX1_passHours_24 rfl ?_
      refine x_get 3 hO dX1_passHours_25 f_X1_44 (by assumption) ⟨by decide, by decide⟩ (v := .int _) rfl ?_
      refine x_iconst (v := nI 1) dX1_passHours_28 (by decide) ?_
      refine x_iadd dX1_passHours_29 ?_
      refine x_putI 3 hO dX1_passHours_30 f_X1_44 (fw_3_6 _) (by assumption) ⟨by decide, by decide⟩ rfl rfl ?_
      refine x_iinc (v := nI 1) dX1_passHours_33 rfl (by decide) (by decide) ?_
      refine x_goto (tgt := 2) dX1_passHours_36 (by decide) ?_
      simp only [wI_wI, gI_wI, nI_add]
      rw [show f4 d 6 = nI (ρi 0) from e46]
      simp only [nI_add]
      refine x_ls [(0, .ref d), (1, .int (nI n)), (2, .int (nI (i + 1)))] ⟨rfl, rfl, rfl, trivial⟩ ?_
      refine ih (m - 1) (by omega) (i + 1) _ (by omega) (by omega) ?_ ?_
      · rw [hr1]
        show VaD _ d (uN (itB (chg (pric (mved ρi)) (lay (mved ρi)).2.2.1) (ρi 1) (mved ρi)) 0 (ρi 0 + 1))
        refine VaD_step hV4 (uN_n (by omega)) (uN_n (by omega)) (fun k hk => uN_n (by omega)) (fun c hc => uN_n (by omega)) ?_ ?_ ?_ ?_ ?_ ?_ ?_ ?_ ?_ ?_ ?_
        · funext q; simp [up2]
        · funext q; simp [up2]
        · funext q; simp [up2]
        · simp [up2]
        · simp [up2]
        · rw [up2_s, uN_s]
        · rw [uN_n (by omega), ← hV4.2.2.2.1]; simp [up2]
        · rw [uN_n (by omega), ← hV4.2.2.2.2.1]; simp [up2]
        · rw [uN_n (by omega), ← hV4.2.2.2.2.2.1]; simp [up2]
        · rw [uN_n (by omega), ← hV4.2.2.2.2.2.2.1]; simp [up2]
        · intro b hb w hw
          rw [uN_n (by simp only [bi]; omega), up2_n (by omega)]
          exact hV4.2.2.2.2.2.2.2.2.1 b hb w hw
      · intro a ha
        funext q
        rw [up2_n (by omega), h4 a ha, gI_wI, h3 a ha, gI_wI, h2 a ha, gI_wI, h1 a ha, gI_wI, hfr a ha]
  refine x_iconst (v := nI 0) dX1_passHours_0 (by decide) ?_
  refine x_istore_n dX1_passHours_1 (by decide) ?_
  refine x_ls [(0, .ref d), (1, .int (nI n)), (2, .int (nI 0))] ⟨rfl, rfl, rfl, trivial⟩ ?_
  exact loop _ 0 (gI C) rfl (Nat.zero_le _) hV (fun _ _ => rfl)

