/-! a depot: what leaves *)-/
theorem ordL_congr {ρ σ : Rw} (h2 : σ 2 = ρ 2) (h : ∀ c, c < ρ 2 → σ (69 + c) = ρ (69 + c)) : ordL σ = ordL ρ := by
  unfold ordL
  rw [h2]
  refine congrArg (fun f => List.flatMap f (List.range 50)) (funext fun i => ?_)
  refine List.filter_congr fun c hc => ?_
  rw [h c (List.mem_range.mp hc)]
theorem VaD_step {g f : Nat → Nat → Int32} {d : Nat} {ρ σ : Rw} (hV : VaD g d ρ) (e1 : σ 1 = ρ 1) (e2 : σ 2 = ρ 2) (e7 : ∀ k, k < 6 → σ (7 + k) = ρ (7 + k)) (e69 : ∀ c, c < ρ 2 → σ (69 + c) = ρ (69 + c)) (h4 : f (d + 4) = g (d + 4)) (h2 : f (d + 2) = g (d + 2)) (h3 : f (d + 3) = g (d + 3)) (f4 : f d 4 = g d 4) (f5 : f d 5 = g d 5)
    (f6 : f d 6 = nI (σ 0)) (f7 : f d 7 = nI (σ 3)) (f8 : f d 8 = nI (σ 4)) (f9 : f d 9 = nI (σ 5)) (f10 : f d 10 = nI (σ 6)) (hb : ∀ b, b < ρ 1 → ∀ w, w < 7 → f (d + 5 + b) w = nI (σ (bi b w))) : VaD f d σ := by
  obtain ⟨v4, v5, v6, v7, v8, v9, v10, vs, vb, vp⟩ := hV
  refine ⟨by rw [f4, v4, e1], by rw [f5, v5, e2], f6, f7, f8, f9, f10, fun k hk => by rw [h4, vs k hk, e7 k hk], fun b hb9 => hb b (by rw [← e1]; exact hb9), fun c hc => ?_⟩
  rw [e2] at hc
  rw [h2, h3, e69 c hc, ordL_congr e2 e69]
  exact vp c hc
theorem wrn_I {ρ : Rw} {j : Nat} (h0 : ρ (bi j 0) ≤ 400) (h2 : ρ (bi j 2) ≤ 400) : (if nI 80 * nI (ρ (bi j 0)) ≤ nI 100 * nI (ρ (bi j 2)) then (3 : Int32) else if nI 50 * nI (ρ (bi j 0)) ≤ nI 100 * nI (ρ (bi j 2)) then 2 else 1) = nI (wrn ρ j) := by
  simp only [pk_mul]
  simp (disch := omega) only [nI_leI]
  unfold wrn
  split
  · rfl
  · split <;> rfl

theorem goes_3 {ρ : Rw} {b : Nat} : goes b ρ 3 = ρ 3 := by
  unfold goes
  split
  · rw [uN_n (by simp only [bi]; omega), uN_n (by simp only [bi]; omega), uN_n (by simp only [bi]; omega), uN_n (by simp only [bi]; omega), uN_n (by omega)]
  · rw [uN_n (by simp only [bi]; omega), uN_n (by simp only [bi]; omega), uN_n (by simp only [bi]; omega), uN_n (by omega)]
theorem goes_55 {ρ : Rw} {b : Nat} : goes b ρ 5 = ρ 5 := by
  unfold goes
  split
  · rw [uN_n (by simp only [bi]; omega), uN_n (by simp only [bi]; omega), uN_n (by simp only [bi]; omega), uN_n (by simp only [bi]; omega), uN_n (by omega)]
  · rw [uN_n (by simp only [bi]; omega), uN_n (by simp only [bi]; omega), uN_n (by simp only [bi]; omega), uN_n (by omega)]
theorem s_sendOut {G : GT} {C : AH} {Q : QT} {X : XT} {d : Nat} {ρ : Rw} {j : Nat} (hO : GO G) (hS : SkD C d) (hV : VaD (gI C) d ρ) (hW : Wf ρ) (hj : j < ρ 1) (h60 : ρ (bi j 6) = 0) (hwr : ρ (bi j 5) < 2000000) (hq : ∀ f : Nat → Nat → Int32, VaD f d (if ρ (bi j 1) < ρ (bi j 2) then miss ρ else goes j ρ) → (∀ a : Nat, a < d ∨ d + 13 ≤ a → f a = gI C a) → Q none (wI C f)) : Mt G M_X1_sendOut [.ref d, .ref (d + 5 + j)] C Q X := by
  refine Mt_of (by decide) (Nat.le_of_ble_eq_true rfl) ?_
  obtain ⟨s0, s1, s2, s3, v4, v5, v6, v7, v8, v9, v10⟩ := SkD_f hS hV
  obtain ⟨hK, -, -, -, -, k1, n1, k2, n2, k3, n3, k4, n4, hbus⟩ := id hS
  obtain ⟨w1, w2, w7, w8, w9, w10, w11, w11', w12, wB, wP⟩ := id hW
  have vb := hV.2.2.2.2.2.2.2.2.1
  obtain ⟨b0, b0', b1, b2, b2', b3, b4, b34, b6⟩ := wB j hj
  have kb := (hbus j (by omega)).2
  have hwl := wrn_le (ρ := ρ) (b := j)
  refine x_aload_n dX1_sendOut_0 rfl ?_
  refine x_callV (As := []) 2 hO dX1_sendOut_1 o_X0_isLow v_X0_isLow l_X1_75 ⟨by decide, by decide⟩ (by assumption) ⟨by decide, by decide⟩ rfl ⟨by decide, by decide⟩ rfl rfl (Nat.le_of_ble_eq_true rfl) (s_X0_isLow hO kb (fun r1 hr1 => ?_))
  dsimp only [Option.toList, List.cons_append, List.nil_append]
  refine x_if_eq (tgt := 35) dX1_sendOut_4 (by decide) (fun c4 => ?_) (fun c4 => ?_)
  · have p1 := (ite01 hr1).1 c4
    rw [vb j hj 6 (by decide), vb j hj 1 (by decide), vb j hj 2 (by decide), nI_z (by omega), nI_ltI (by omega) (by omega)] at p1
    have p1 : ¬ ρ (bi j 1) < ρ (bi j 2) := fun q => p1 ⟨h60, q⟩
    refine x_aload_n dX1_sendOut_35 rfl ?_
    refine x_aload_n dX1_sendOut_36 rfl ?_
    refine x_callV (As := []) 2 hO dX1_sendOut_37 o_X0_wearOfRoute v_X0_wearOfRoute l_X1_164 ⟨by decide, by decide⟩ (by assumption) ⟨by decide, by decide⟩ rfl ⟨by decide, by decide⟩ rfl rfl (Nat.le_of_ble_eq_true rfl) (s_X0_wearOfRoute hO kb (fun r37 hr37 => ?_))
    dsimp only [Option.toList, List.cons_append, List.nil_append]
    rw [vb j hj 0 (by decide), vb j hj 2 (by decide)] at hr37
    refine x_aload_n dX1_sendOut_40 rfl ?_
    refine x_get 3 hO dX1_sendOut_41 f_X1_24 (by assumption) ⟨by decide, by decide⟩ (v := .ref (d + 4)) s3 ?_
    refine x_iconst (v := nI 4) dX1_sendOut_44 (by decide) ?_
    refine x_iald _ _ hO dX1_sendOut_45 (by assumption) rfl (by assumption) (by omega) (by decide) ?_
    refine x_callV (As := [_, _]) 2 hO dX1_sendOut_46 o_X0_goOut v_X0_goOut l_X1_167 ⟨by decide, by decide⟩ (by assumption) ⟨by decide, by decide⟩ rfl ⟨by decide, by decide⟩ rfl rfl (Nat.le_of_ble_eq_true rfl) (s_X0_goOut hO kb (fun f g1 g2 g3 g5 g6 => ?_))
    dsimp only [Option.toList, List.cons_append, List.nil_append]
    refine x_aload_n dX1_sendOut_49 rfl ?_
    refine x_dup dX1_sendOut_50 rfl ?_
    refine x_get 3 hO dX1_sendOut_51 f_X1_56 (by assumption) ⟨by decide, by decide⟩ (v := .int _) rfl ?_
    refine x_iconst (v := nI 1) dX1_sendOut_54 (by decide) ?_
    refine x_iadd dX1_sendOut_55 ?_
    refine x_putI 3 hO dX1_sendOut_56 f_X1_56 (fw_3_10 _) (by assumption) ⟨by decide, by decide⟩ rfl rfl ?_
    refine x_ret dX1_sendOut_59 rfl ?_
    simp only [wI_wI, gI_wI]
    rw [if_neg p1] at hq
    simp only [vb j hj 0 (by decide), vb j hj 1 (by decide), vb j hj 2 (by decide), vb j hj 5 (by decide)] at g5 g6
    rw [show gI C (d + 4) 4 = nI (ρ 11) from hV.2.2.2.2.2.2.2.1 4 (by decide)] at g5 g6
    rw [wrn_I (by omega) (by omega)] at hr37
    subst hr37
    rw [nI_add, nI_leI (by omega) (by omega)] at g5 g6
    have hc := goes_0 (ρ := ρ) (b := j)
    have hc1 := goes_1 (ρ := ρ) (b := j)
    have hc5 := goes_5 (ρ := ρ) (b := j)
    have hc6 := goes_6 (ρ := ρ) (b := j)
    have hfd : ∀ k, f d k = gI C d k := fun k => g1 d k (by omega)
    refine hq _ ?_ ?_
    · refine VaD_step hV (goes_o (by simp only [tch, bi]; omega)) (goes_o (by simp only [tch, bi]; omega)) (fun k hk => goes_o (by simp only [tch, bi]; omega)) (fun c hc => goes_o (by simp only [tch, bi]; omega)) ?_ ?_ ?_ ?_ ?_ ?_ ?_ ?_ ?_ ?_ ?_
      · funext q; simp [up2, g1 (d + 4) q (by omega)]
      · funext q; simp [up2, g1 (d + 2) q (by omega)]
      · funext q; simp [up2, g1 (d + 3) q (by omega)]
      · simp [up2, hfd]
      · simp [up2, hfd]
      · rw [goes_o (by simp only [tch, bi]; omega)]; simp [up2, hfd, hV.2.2.1]
      · rw [show goes j ρ 3 = ρ 3 from goes_3]; simp [up2, hfd, hV.2.2.2.1]
      · rw [goes_o (by simp only [tch, bi]; omega)]; simp [up2, hfd, hV.2.2.2.2.1]
      · rw [show goes j ρ 5 = ρ 5 from goes_55]; simp [up2, hfd, hV.2.2.2.2.2.1]
      · rw [goes_g]; simp [up2, hfd, hV.2.2.2.2.2.2.1, nI_add]
      · intro b hb w hw
        have hne : ¬ (d + 5 + b = d) := by omega
        simp only [up2, hne, false_and, if_false]
        by_cases e : b = j
        · subst e
          by_cases hlim : ρ 11 ≤ ρ (bi b 5) + wrn ρ b
          · obtain ⟨q0, q1, q5⟩ := g6 hlim
            rw [pk_sub (by omega)] at q0
            simp (disch := omega) only [nI_ltI] at q0
            rw [if_pos hlim] at hc hc1 hc5
            have q0' : f (d + 5 + b) 0 = nI (goes b ρ (bi b 0)) := by
              rw [q0, hc]
              by_cases c10 : 10 < ρ (bi b 0)
              · rw [if_pos c10]
                by_cases c11 : 10 < ρ (bi b 0) - 1
                · rw [if_pos c11]
                · rw [if_neg c11]; congr 1; omega
              · rw [if_neg c10, if_neg (by omega)]
            rw [q0', pk_sub (by omega), hc] at q1
            have hsz : (if 10 < ρ (bi b 0) then ρ (bi b 0) - 1 else 10) < 1000 := by split <;> omega
            simp (disch := omega) only [nI_ltI] at q1
            match w, hw with
            | 0, _ => exact q0'
            | 1, _ => rw [q1, hc1]; exact (apply_ite nI _ _ _).symm
            | 2, _ => rw [g2 2 (by omega), goes_o (by simp only [tch, bi]; omega)]; exact vb b hb 2 (by decide)
            | 3, _ => rw [g2 3 (by omega), goes_o (by simp only [tch, bi]; omega)]; exact vb b hb 3 (by decide)
            | 4, _ => rw [g2 4 (by omega), goes_o (by simp only [tch, bi]; omega)]; exact vb b hb 4 (by decide)
            | 5, _ => rw [q5, hc5, pk_sub hlim]
            | 6, _ => rw [g3, hc6]; rfl
          · obtain ⟨q0, q1, q5⟩ := g5 hlim
            rw [if_neg hlim] at hc hc1 hc5
            match w, hw with
            | 0, _ => rw [q0, hc]
            | 1, _ => rw [q1, hc1, pk_sub (by omega)]
            | 2, _ => rw [g2 2 (by omega), goes_o (by simp only [tch, bi]; omega)]; exact vb b hb 2 (by decide)
            | 3, _ => rw [g2 3 (by omega), goes_o (by simp only [tch, bi]; omega)]; exact vb b hb 3 (by decide)
            | 4, _ => rw [g2 4 (by omega), goes_o (by simp only [tch, bi]; omega)]; exact vb b hb 4 (by decide)
            | 5, _ => rw [q5, hc5]
            | 6, _ => rw [g3, hc6]; rfl
        · rw [g1 (d + 5 + b) w (by omega), goes_o (by simp only [tch, bi]; omega)]
          exact vb b hb w hw
    · intro a ha
      funext q
      simp [up2, show ¬ (a = d) by omega, g1 a q (by omega)]
  · have p1 := (ite01 hr1).2 c4
    rw [vb j hj 6 (by decide), vb j hj 1 (by decide), vb j hj 2 (by decide), nI_z (by omega), nI_ltI (by omega) (by omega)] at p1
    have p1 := p1.2
    refine x_aload_n dX1_sendOut_7 rfl ?_
    refine x_dup dX1_sendOut_8 rfl ?_
    refine x_get 3 hO dX1_sendOut_9 f_X1_53 (by assumption) ⟨by decide, by decide⟩ (v := .int (nI (ρ 5))) v9 ?_
    refine x_iconst (v := nI 1) dX1_sendOut_12 (by decide) ?_
    refine x_iadd dX1_sendOut_13 ?_
    refine x_putI 3 hO dX1_sendOut_14 f_X1_53 (fw_3_9 _) (by assumption) ⟨by decide, by decide⟩ rfl rfl ?_
    refine x_aload_n dX1_sendOut_17 rfl ?_
    refine x_dup dX1_sendOut_18 rfl ?_
    refine x_get 3 hO dX1_sendOut_19 f_X1_47 (by assumption) ⟨by decide, by decide⟩ (v := .int _) rfl ?_
    refine x_aload_n dX1_sendOut_22 rfl ?_
    refine x_get 3 hO dX1_sendOut_23 f_X1_24 (by assumption) ⟨by decide, by decide⟩ (v := .ref (d + 4)) s3 ?_
    refine x_iconst (v := nI 3) dX1_sendOut_26 (by decide) ?_
    refine x_iald _ _ hO dX1_sendOut_27 (by assumption) rfl (by assumption) (by omega) (by decide) ?_
    refine x_iadd dX1_sendOut_28 ?_
    refine x_putI 3 hO dX1_sendOut_29 f_X1_47 (fw_3_7 _) (by assumption) ⟨by decide, by decide⟩ rfl rfl ?_
    refine x_goto (tgt := 59) dX1_sendOut_32 (by decide) ?_
    refine x_ret dX1_sendOut_59 rfl ?_
    simp only [wI_wI, gI_wI]
    rw [if_pos p1] at hq
    refine hq _ ?_ ?_
    · refine VaD_step hV (by simp [miss, uN]) (by simp [miss, uN]) (fun k hk => miss_o (by omega) (by omega)) (fun c hc => miss_o (by omega) (by omega)) ?_ ?_ ?_ ?_ ?_ ?_ ?_ ?_ ?_ ?_ ?_
      · funext q; simp [up2]
      · funext q; simp [up2]
      · funext q; simp [up2]
      · simp [up2]
      · simp [up2]
      · simp [up2, miss, uN, hV.2.2.1]
      · simp [up2, miss, uN, hV.2.2.2.1, hV.2.2.2.2.2.2.2.1 3 (by decide), nI_add]
      · simp [up2, miss, uN, hV.2.2.2.2.1]
      · simp [up2, miss, uN, hV.2.2.2.2.2.1, nI_add]
      · simp [up2, miss, uN, hV.2.2.2.2.2.2.1]
      · intro b hb w hw
        rw [miss_o (by simp only [bi]; omega) (by simp only [bi]; omega), ← vb b hb w hw]
        simp [up2, show ¬ (d + 5 + b = d) by omega]
    · intro a ha
      funext q
      simp [up2, show ¬ (a = d) by omega]
