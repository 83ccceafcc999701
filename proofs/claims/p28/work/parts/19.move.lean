/-! a depot: all buses come and go *)-/
theorem mv1_o {ρ : Rw} {b j : Nat} (h : ¬ tch b j) : mv1 b ρ j = ρ j := by
  unfold mv1
  split
  · exact uN_n (by simp only [tch, not_or] at h; exact h.2.2.2.2.2.2)
  · exact lv1_o h
theorem Wf_mv1 {ρ : Rw} {b : Nat} (hb : b < ρ 1) (h : Wf ρ) : Wf (mv1 b ρ) := by
  unfold mv1
  split
  · next q =>
    have := Wf_cb1 hb h
    unfold cb1 at this
    rw [if_pos q.2] at this
    exact this
  · exact Wf_lv1 hb h
theorem mv_it {ρ : Rw} {b : Nat} (h : Wf ρ) (hb : b ≤ ρ 1) : Wf (itB mv1 b ρ) ∧ itB mv1 b ρ 1 = ρ 1 ∧ itB mv1 b ρ 0 = ρ 0 ∧ ∀ c, b ≤ c → ∀ w, w < 7 → itB mv1 b ρ (bi c w) = ρ (bi c w) := by
  induction b with
  | zero => exact ⟨h, rfl, rfl, fun _ _ _ _ => rfl⟩
  | succ b ih =>
    obtain ⟨i1, i2, i3, i4⟩ := ih (by omega)
    refine ⟨Wf_mv1 (by omega) i1, ?_, ?_, fun c hc w hw => ?_⟩
    · show mv1 b _ 1 = _
      rw [mv1_o (by simp only [tch, bi]; omega), i2]
    · show mv1 b _ 0 = _
      rw [mv1_o (by simp only [tch, bi]; omega), i3]
    · show mv1 b _ _ = _
      rw [mv1_o (by simp only [tch, bi]; omega), i4 c (by omega) w hw]
theorem mv1_e1 {ρ : Rw} {b : Nat} (h : ρ (bi b 6) = 1 ∧ ρ (bi b 4) = ρ 0 % 24) : mv1 b ρ = uN ρ (bi b 6) 0 := if_pos h
theorem mv1_e2 {ρ : Rw} {b : Nat} (h : ¬ (ρ (bi b 6) = 1 ∧ ρ (bi b 4) = ρ 0 % 24)) : mv1 b ρ = lv1 b ρ := if_neg h
theorem lv1_e0 {ρ : Rw} {b : Nat} (h : ¬ (ρ (bi b 6) = 0 ∧ ρ (bi b 3) = ρ 0 % 24)) : lv1 b ρ = ρ := if_neg h
theorem lv1_e1 {ρ : Rw} {b : Nat} (h : ρ (bi b 6) = 0 ∧ ρ (bi b 3) = ρ 0 % 24) : lv1 b ρ = if ρ (bi b 1) < ρ (bi b 2) then miss ρ else goes b ρ := if_pos h
theorem mved_mv {ρ : Rw} (h : Wf ρ) : mved ρ = itB mv1 (ρ 1) ρ := by
  unfold mved leave
  rw [(Wf_back h).2, mv_eq fun b hb => ⟨(h.2.2.2.2.2.2.2.2.2.1 b hb).2.2.2.2.2.2.2.1, (h.2.2.2.2.2.2.2.2.2.1 b hb).2.2.2.2.2.2.2.2⟩]
  rfl

theorem s_moveBuses {G : GT} {C : AH} {Q : QT} {X : XT} {d : Nat} {ρ : Rw} (hO : GO G) (hS : SkD C d) (hV : VaD (gI C) d ρ) (hW : Wf ρ) (hb0 : ρ 0 < 1000000) (hwr : ∀ b, b < ρ 1 → ρ (bi b 5) < 2000000) (hq : ∀ f : Nat → Nat → Int32, VaD f d (mved ρ) → (∀ a : Nat, a < d ∨ d + 13 ≤ a → f a = gI C a) → Q none (wI C f)) : Mt G M_X1_moveBuses [.ref d] C Q X := by
  refine Mt_of (by decide) (Nat.le_of_ble_eq_true rfl) ?_
  obtain ⟨hK, -, -, -, -, k1, n1, k2, n2, k3, n3, k4, n4, hbus⟩ := id hS
  have w1 : ρ 1 ≤ 8 := hW.1
  have loop : ∀ (m b : Nat) (f : Nat → Nat → Int32), ρ 1 - b = m → b ≤ ρ 1 → VaD f d (itB mv1 b ρ) → (∀ a : Nat, a < d ∨ d + 13 ≤ a → f a = gI C a) → Ex G M_X1_moveBuses Q X (mC M_X1_moveBuses) (mS M_X1_moveBuses) 7 [(0, .ref d), (1, .int (nI (ρ 0 % 24))), (2, .int (nI b))] [] (wI C f) := by
    intro m
    induction m using Nat.strongRecOn with
    | _ m ih =>
    intro b f hm hb9 hVf hfr
    obtain ⟨hWs, e1, e0, es⟩ := mv_it (b := b) hW hb9
    obtain ⟨s0, s1, s2, s3, v4, v5, v6, v7, v8, v9, v10⟩ := SkD_f (C := wI C f) hS hVf
    have vb := hVf.2.2.2.2.2.2.2.2.1
    refine x_iload_n dX1_moveBuses_7 rfl ?_
    refine x_aload_n dX1_moveBuses_8 rfl ?_
    refine x_get 3 hO dX1_moveBuses_9 f_X1_37 (by assumption) ⟨by decide, by decide⟩ (v := .int (nI (itB mv1 b ρ 1))) v4 ?_
    refine x_icmp_ge (tgt := 64) dX1_moveBuses_12 (by decide) (fun c12 => ?_) (fun c12 => ?_)
    · skip
      refine x_ret dX1_moveBuses_64 rfl ?_
      have : b = ρ 1 := by simp (disch := omega) only [nI_leI] at c12; omega
      subst this
      rw [← mved_mv hW] at hVf
      exact hq f hVf hfr
    · have hb8 : b < ρ 1 := by simp (disch := omega) only [nI_leI] at c12; omega
      obtain ⟨b0, b0', b1, b2, b2', b3, b4, b34, b6⟩ := hWs.2.2.2.2.2.2.2.2.2.1 b (by omega)
      have kb : gK (wI C f) (d + 5 + b) = 2 := (hbus b (by omega)).2
      have hw5 := hwr b hb8
      rw [← es b (Nat.le_refl b) 5 (by decide)] at hw5
      refine x_aload_n dX1_moveBuses_15 rfl ?_
      refine x_get 3 hO dX1_moveBuses_16 f_X1_11 (by assumption) ⟨by decide, by decide⟩ (v := .ref (d + 1)) s0 ?_
      refine x_iload_n dX1_moveBuses_19 rfl ?_
      
      refine x_aald 25 _ _ hO dX1_moveBuses_20 (by assumption) (by decide) rfl (by assumption) (by omega) (by decide) ?_
      rw [show gR (wI C f) (d + 1) b = some (d + 5 + b) from (hbus b (by omega)).1]
      refine x_astore_n (x := d + 5 + b) dX1_moveBuses_21 (by decide) ?_
      refine x_aload_n dX1_moveBuses_22 rfl ?_
      refine x_get 2 hO dX1_moveBuses_23 f_X1_71 (by assumption) ⟨by decide, by decide⟩ (v := .int (nI (itB mv1 b ρ (bi b 6)))) (congrArg Value.int (vb b (by omega) 6 (by decide))) ?_
      refine x_if_eq (tgt := 45) dX1_moveBuses_26 (by decide) (fun c26 => ?_) (fun c26 => ?_)
      · simp (disch := omega) only [nI_z] at c26
        refine x_aload_n dX1_moveBuses_45 rfl ?_
        refine x_aload_n dX1_moveBuses_46 rfl ?_
        refine x_callV (As := [_]) 3 hO dX1_moveBuses_47 o_X1_isDue v_X1_isDue l_X1_99 ⟨by decide, by decide⟩ (by assumption) ⟨by decide, by decide⟩ rfl ⟨by decide, by decide⟩ rfl rfl (Nat.le_of_ble_eq_true rfl) (s_isDue (C := wI C f) hO hS hVf hWs (by omega) (by omega) (fun r47 hr47 => ?_))
        dsimp only [Option.toList, List.cons_append, List.nil_append]
        refine x_if_eq (tgt := 58) dX1_moveBuses_50 (by decide) (fun c50 => ?_) (fun c50 => ?_)
        · have p47 := (ite01 hr47).1 c50
          refine x_iinc (v := nI 1) dX1_moveBuses_58 rfl (by decide) (by decide) ?_
          refine x_goto (tgt := 7) dX1_moveBuses_61 (by decide) ?_
          simp only [nI_add]
          refine x_ls [(0, .ref d), (1, .int (nI (ρ 0 % 24))), (2, .int (nI (b + 1)))] ⟨rfl, rfl, rfl, trivial⟩ ?_
          refine ih (m - 1) (by omega) (b + 1) f (by omega) (by omega) ?_ hfr
          have em : itB mv1 (b + 1) ρ = itB mv1 b ρ := by
            exact (mv1_e2 (by omega)).trans (lv1_e0 p47)
          rw [em]
          exact hVf
        · have p47 := (ite01 hr47).2 c50
          refine x_aload_n dX1_moveBuses_53 rfl ?_
          refine x_aload_n dX1_moveBuses_54 rfl ?_
          refine x_callV (As := [_]) 3 hO dX1_moveBuses_55 o_X1_sendOut v_X1_sendOut l_X1_161 ⟨by decide, by decide⟩ (by assumption) ⟨by decide, by decide⟩ rfl ⟨by decide, by decide⟩ rfl rfl (Nat.le_of_ble_eq_true rfl) (s_sendOut (C := wI C f) hO hS hVf hWs (by omega) p47.1 hw5 (fun f2 hV2 hfr2 => ?_))
          dsimp only [Option.toList, List.cons_append, List.nil_append]
          refine x_iinc (v := nI 1) dX1_moveBuses_58 rfl (by decide) (by decide) ?_
          refine x_goto (tgt := 7) dX1_moveBuses_61 (by decide) ?_
          simp only [nI_add]
          refine x_ls [(0, .ref d), (1, .int (nI (ρ 0 % 24))), (2, .int (nI (b + 1)))] ⟨rfl, rfl, rfl, trivial⟩ ?_
          refine ih (m - 1) (by omega) (b + 1) f2 (by omega) (by omega) ?_ ?_
          · have em : itB mv1 (b + 1) ρ = if itB mv1 b ρ (bi b 1) < itB mv1 b ρ (bi b 2) then miss (itB mv1 b ρ) else goes b (itB mv1 b ρ) := by
              exact (mv1_e2 (by omega)).trans (lv1_e1 p47)
            rw [em]
            exact hV2
          · intro a ha
            rw [hfr2 a ha]
            exact hfr a ha
      · simp (disch := omega) only [nI_z] at c26
        refine x_aload_n dX1_moveBuses_29 rfl ?_
        refine x_get 2 hO dX1_moveBuses_30 f_X1_158 (by assumption) ⟨by decide, by decide⟩ (v := .int (nI (itB mv1 b ρ (bi b 4)))) (congrArg Value.int (vb b (by omega) 4 (by decide))) ?_
        refine x_iload_n dX1_moveBuses_33 rfl ?_
        refine x_icmp_ne (tgt := 45) dX1_moveBuses_34 (by decide) (fun c34 => ?_) (fun c34 => ?_)
        · simp (disch := omega) only [nI_eq] at c34
          refine x_aload_n dX1_moveBuses_45 rfl ?_
          refine x_aload_n dX1_moveBuses_46 rfl ?_
          refine x_callV (As := [_]) 3 hO dX1_moveBuses_47 o_X1_isDue v_X1_isDue l_X1_99 ⟨by decide, by decide⟩ (by assumption) ⟨by decide, by decide⟩ rfl ⟨by decide, by decide⟩ rfl rfl (Nat.le_of_ble_eq_true rfl) (s_isDue (C := wI C f) hO hS hVf hWs (by omega) (by omega) (fun r47 hr47 => ?_))
          dsimp only [Option.toList, List.cons_append, List.nil_append]
          refine x_if_eq (tgt := 58) dX1_moveBuses_50 (by decide) (fun c50 => ?_) (fun c50 => ?_)
          · have p47 := (ite01 hr47).1 c50
            refine x_iinc (v := nI 1) dX1_moveBuses_58 rfl (by decide) (by decide) ?_
            refine x_goto (tgt := 7) dX1_moveBuses_61 (by decide) ?_
            simp only [nI_add]
            refine x_ls [(0, .ref d), (1, .int (nI (ρ 0 % 24))), (2, .int (nI (b + 1)))] ⟨rfl, rfl, rfl, trivial⟩ ?_
            refine ih (m - 1) (by omega) (b + 1) f (by omega) (by omega) ?_ hfr
            have em : itB mv1 (b + 1) ρ = itB mv1 b ρ := by
              exact (mv1_e2 (by omega)).trans (lv1_e0 p47)
            rw [em]
            exact hVf
          · have p47 := (ite01 hr47).2 c50
            refine x_aload_n dX1_moveBuses_53 rfl ?_
            refine x_aload_n dX1_moveBuses_54 rfl ?_
            refine x_callV (As := [_]) 3 hO dX1_moveBuses_55 o_X1_sendOut v_X1_sendOut l_X1_161 ⟨by decide, by decide⟩ (by assumption) ⟨by decide, by decide⟩ rfl ⟨by decide, by decide⟩ rfl rfl (Nat.le_of_ble_eq_true rfl) (s_sendOut (C := wI C f) hO hS hVf hWs (by omega) p47.1 hw5 (fun f2 hV2 hfr2 => ?_))
            dsimp only [Option.toList, List.cons_append, List.nil_append]
            refine x_iinc (v := nI 1) dX1_moveBuses_58 rfl (by decide) (by decide) ?_
            refine x_goto (tgt := 7) dX1_moveBuses_61 (by decide) ?_
            simp only [nI_add]
            refine x_ls [(0, .ref d), (1, .int (nI (ρ 0 % 24))), (2, .int (nI (b + 1)))] ⟨rfl, rfl, rfl, trivial⟩ ?_
            refine ih (m - 1) (by omega) (b + 1) f2 (by omega) (by omega) ?_ ?_
            · have em : itB mv1 (b + 1) ρ = if itB mv1 b ρ (bi b 1) < itB mv1 b ρ (bi b 2) then miss (itB mv1 b ρ) else goes b (itB mv1 b ρ) := by
                exact (mv1_e2 (by omega)).trans (lv1_e1 p47)
              rw [em]
              exact hV2
            · intro a ha
              rw [hfr2 a ha]
              exact hfr a ha
        · simp (disch := omega) only [nI_eq] at c34
          refine x_aload_n dX1_moveBuses_37 rfl ?_
          refine x_iconst (v := nI 0) dX1_moveBuses_38 (by decide) ?_
          refine x_putZ 2 hO dX1_moveBuses_39 f_X1_71 (fw_2_6 _) (by assumption) ⟨by decide, by decide⟩ rfl (by first | exact Or.inl rfl | exact Or.inr rfl | assumption) ?_
          refine x_goto (tgt := 58) dX1_moveBuses_42 (by decide) ?_
          refine x_iinc (v := nI 1) dX1_moveBuses_58 rfl (by decide) (by decide) ?_
          refine x_goto (tgt := 7) dX1_moveBuses_61 (by decide) ?_
          simp only [nI_add]
          refine x_ls [(0, .ref d), (1, .int (nI (ρ 0 % 24))), (2, .int (nI (b + 1)))] ⟨rfl, rfl, rfl, trivial⟩ ?_
          refine ih (m - 1) (by omega) (b + 1) _ (by omega) (by omega) ?_ ?_
          · have em : itB mv1 (b + 1) ρ = uN (itB mv1 b ρ) (bi b 6) 0 := by
              exact mv1_e1 ⟨by omega, by omega⟩
            rw [em]
            refine VaD_step hVf (uN_n (by simp only [bi]; omega)) (uN_n (by simp only [bi]; omega)) (fun k hk => uN_n (by simp only [bi]; omega)) (fun c hc => uN_n (by simp only [bi]; omega)) ?_ ?_ ?_ ?_ ?_ ?_ ?_ ?_ ?_ ?_ ?_
            · funext q; simp [up2, gI_wI, show ¬ (d + 4 = d + 5 + b) by omega]
            · funext q; simp [up2, gI_wI, show ¬ (d + 2 = d + 5 + b) by omega]
            · funext q; simp [up2, gI_wI, show ¬ (d + 3 = d + 5 + b) by omega]
            · simp [up2, gI_wI, show ¬ (d = d + 5 + b) by omega]
            · simp [up2, gI_wI, show ¬ (d = d + 5 + b) by omega]
            · rw [uN_n (by simp only [bi]; omega), ← hVf.2.2.1]; simp [up2, gI_wI, show ¬ (d = d + 5 + b) by omega]
            · rw [uN_n (by simp only [bi]; omega), ← hVf.2.2.2.1]; simp [up2, gI_wI, show ¬ (d = d + 5 + b) by omega]
            · rw [uN_n (by simp only [bi]; omega), ← hVf.2.2.2.2.1]; simp [up2, gI_wI, show ¬ (d = d + 5 + b) by omega]
            · rw [uN_n (by simp only [bi]; omega), ← hVf.2.2.2.2.2.1]; simp [up2, gI_wI, show ¬ (d = d + 5 + b) by omega]
            · rw [uN_n (by simp only [bi]; omega), ← hVf.2.2.2.2.2.2.1]; simp [up2, gI_wI, show ¬ (d = d + 5 + b) by omega]
            · intro c hc w hw
              by_cases e : c = b ∧ w = 6
              · obtain ⟨rfl, rfl⟩ := e
                rw [uN_s, up2_s]
              · rw [uN_n (by simp only [bi]; omega), up2_n (by omega)]
                exact vb c hc w hw
          · intro a ha
            funext q
            rw [up2_n (by omega), gI_wI, hfr a ha]
  refine x_aload_n dX1_moveBuses_0 rfl ?_
  refine x_callV (As := []) 3 hO dX1_moveBuses_1 o_X1_hourOfDay v_X1_hourOfDay l_X1_95 ⟨by decide, by decide⟩ (by assumption) ⟨by decide, by decide⟩ rfl ⟨by decide, by decide⟩ rfl rfl (Nat.le_of_ble_eq_true rfl) (s_hourOfDay hO hS hV hW hb0 ?_)
  dsimp only [Option.toList, List.cons_append, List.nil_append]
  refine x_istore_n dX1_moveBuses_4 (by decide) ?_
  refine x_iconst (v := nI 0) dX1_moveBuses_5 (by decide) ?_
  refine x_istore_n dX1_moveBuses_6 (by decide) ?_
  refine x_ls [(0, .ref d), (1, .int (nI (ρ 0 % 24))), (2, .int (nI 0))] ⟨rfl, rfl, rfl, trivial⟩ ?_
  exact loop _ 0 (gI C) rfl (Nat.zero_le _) hV (fun _ _ => rfl)
