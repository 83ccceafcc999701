/-! calls on a bus, undo, save, restore, load *)-/
theorem VaD_bt {g : Nat → Nat → Int32} {d j x : Nat} {ρ : Rw} (hW : Wf ρ) (hV : VaD g d ρ) (hj : j < ρ 1) : VaD (up2 (up2 (up2 g (d + 5 + j) 0 (nI x)) (d + 5 + j) 1 0) (d + 5 + j) 5 0) d (btB ρ j x) := by
  have w1 : ρ 1 ≤ 8 := hW.1
  have w2 : ρ 2 ≤ 5 := hW.2.1
  have vb := hV.2.2.2.2.2.2.2.2.1
  refine VaD_step hV (btB_o (by simp only [bi]; omega) (by simp only [bi]; omega) (by simp only [bi]; omega)) (btB_o (by simp only [bi]; omega) (by simp only [bi]; omega) (by simp only [bi]; omega)) (fun k9 hk9 => btB_o (by simp only [bi]; omega) (by simp only [bi]; omega) (by simp only [bi]; omega)) (fun c9 hc9 => btB_o (by simp only [bi]; omega) (by simp only [bi]; omega) (by simp only [bi]; omega)) ?_ ?_ ?_ ?_ ?_ ?_ ?_ ?_ ?_ ?_ ?_
  · funext q; simp [up2, show ¬ (d + 4 = d + 5 + j) by omega]
  · funext q; simp [up2, show ¬ (d + 2 = d + 5 + j) by omega]
  · funext q; simp [up2, show ¬ (d + 3 = d + 5 + j) by omega]
  · simp [up2, show ¬ (d = d + 5 + j) by omega]
  · simp [up2, show ¬ (d = d + 5 + j) by omega]
  · rw [btB_o (by simp only [bi]; omega) (by simp only [bi]; omega) (by simp only [bi]; omega), ← hV.2.2.1]; simp [up2, show ¬ (d = d + 5 + j) by omega]
  · rw [btB_o (by simp only [bi]; omega) (by simp only [bi]; omega) (by simp only [bi]; omega), ← hV.2.2.2.1]; simp [up2, show ¬ (d = d + 5 + j) by omega]
  · rw [btB_o (by simp only [bi]; omega) (by simp only [bi]; omega) (by simp only [bi]; omega), ← hV.2.2.2.2.1]; simp [up2, show ¬ (d = d + 5 + j) by omega]
  · rw [btB_o (by simp only [bi]; omega) (by simp only [bi]; omega) (by simp only [bi]; omega), ← hV.2.2.2.2.2.1]; simp [up2, show ¬ (d = d + 5 + j) by omega]
  · rw [btB_o (by simp only [bi]; omega) (by simp only [bi]; omega) (by simp only [bi]; omega), ← hV.2.2.2.2.2.2.1]; simp [up2, show ¬ (d = d + 5 + j) by omega]
  · intro b9 hb9' w hw
    by_cases e : b9 = j
    · subst e
      match w, hw with
      | 0, _ => rw [btB_b0]; simp [up2]
      | 1, _ => rw [btB_b1]; simp [up2, nI_0]
      | 2, _ => rw [btB_o (by simp only [bi]; omega) (by simp only [bi]; omega) (by simp only [bi]; omega), ← vb b9 hb9' 2 (by decide)]; simp [up2]
      | 3, _ => rw [btB_o (by simp only [bi]; omega) (by simp only [bi]; omega) (by simp only [bi]; omega), ← vb b9 hb9' 3 (by decide)]; simp [up2]
      | 4, _ => rw [btB_o (by simp only [bi]; omega) (by simp only [bi]; omega) (by simp only [bi]; omega), ← vb b9 hb9' 4 (by decide)]; simp [up2]
      | 5, _ => rw [btB_b5]; simp [up2, nI_0]
      | 6, _ => rw [btB_o (by simp only [bi]; omega) (by simp only [bi]; omega) (by simp only [bi]; omega), ← vb b9 hb9' 6 (by decide)]; simp [up2]
    · rw [btB_o (by simp only [bi]; omega) (by simp only [bi]; omega) (by simp only [bi]; omega), ← vb b9 hb9' w hw]
      simp [up2, e]

theorem VaD_rt {g : Nat → Nat → Int32} {d j x y z : Nat} {ρ : Rw} (hW : Wf ρ) (hV : VaD g d ρ) (hj : j < ρ 1) : VaD (up2 (up2 (up2 g (d + 5 + j) 2 (nI x)) (d + 5 + j) 3 (nI y)) (d + 5 + j) 4 (nI z)) d (rtB ρ j x y z) := by
  have w1 : ρ 1 ≤ 8 := hW.1
  have w2 : ρ 2 ≤ 5 := hW.2.1
  have vb := hV.2.2.2.2.2.2.2.2.1
  refine VaD_step hV (rtB_o (by simp only [bi]; omega) (by simp only [bi]; omega) (by simp only [bi]; omega)) (rtB_o (by simp only [bi]; omega) (by simp only [bi]; omega) (by simp only [bi]; omega)) (fun k9 hk9 => rtB_o (by simp only [bi]; omega) (by simp only [bi]; omega) (by simp only [bi]; omega)) (fun c9 hc9 => rtB_o (by simp only [bi]; omega) (by simp only [bi]; omega) (by simp only [bi]; omega)) ?_ ?_ ?_ ?_ ?_ ?_ ?_ ?_ ?_ ?_ ?_
  · funext q; simp [up2, show ¬ (d + 4 = d + 5 + j) by omega]
  · funext q; simp [up2, show ¬ (d + 2 = d + 5 + j) by omega]
  · funext q; simp [up2, show ¬ (d + 3 = d + 5 + j) by omega]
  · simp [up2, show ¬ (d = d + 5 + j) by omega]
  · simp [up2, show ¬ (d = d + 5 + j) by omega]
  · rw [rtB_o (by simp only [bi]; omega) (by simp only [bi]; omega) (by simp only [bi]; omega), ← hV.2.2.1]; simp [up2, show ¬ (d = d + 5 + j) by omega]
  · rw [rtB_o (by simp only [bi]; omega) (by simp only [bi]; omega) (by simp only [bi]; omega), ← hV.2.2.2.1]; simp [up2, show ¬ (d = d + 5 + j) by omega]
  · rw [rtB_o (by simp only [bi]; omega) (by simp only [bi]; omega) (by simp only [bi]; omega), ← hV.2.2.2.2.1]; simp [up2, show ¬ (d = d + 5 + j) by omega]
  · rw [rtB_o (by simp only [bi]; omega) (by simp only [bi]; omega) (by simp only [bi]; omega), ← hV.2.2.2.2.2.1]; simp [up2, show ¬ (d = d + 5 + j) by omega]
  · rw [rtB_o (by simp only [bi]; omega) (by simp only [bi]; omega) (by simp only [bi]; omega), ← hV.2.2.2.2.2.2.1]; simp [up2, show ¬ (d = d + 5 + j) by omega]
  · intro b9 hb9' w hw
    by_cases e : b9 = j
    · subst e
      match w, hw with
      | 0, _ => rw [rtB_o (by simp only [bi]; omega) (by simp only [bi]; omega) (by simp only [bi]; omega), ← vb b9 hb9' 0 (by decide)]; simp [up2]
      | 1, _ => rw [rtB_o (by simp only [bi]; omega) (by simp only [bi]; omega) (by simp only [bi]; omega), ← vb b9 hb9' 1 (by decide)]; simp [up2]
      | 2, _ => rw [rtB_b2]; simp [up2]
      | 3, _ => rw [rtB_b3]; simp [up2]
      | 4, _ => rw [rtB_b4]; simp [up2]
      | 5, _ => rw [rtB_o (by simp only [bi]; omega) (by simp only [bi]; omega) (by simp only [bi]; omega), ← vb b9 hb9' 5 (by decide)]; simp [up2]
      | 6, _ => rw [rtB_o (by simp only [bi]; omega) (by simp only [bi]; omega) (by simp only [bi]; omega), ← vb b9 hb9' 6 (by decide)]; simp [up2]
    · rw [rtB_o (by simp only [bi]; omega) (by simp only [bi]; omega) (by simp only [bi]; omega), ← vb b9 hb9' w hw]
      simp [up2, e]

theorem t_requireBus {G : GT} {C : AH} {Q : QT} {X : XT} {sa va : Nat → Nat} {x T n : Nat} {S : Nat → Nat} {ρ : Rw} {L : List Rw} {K : Nat → Option Rw} {b : Int32} (hO : GO G) (hX : GX G sa va) (hT : T ≤ 40000) (hR : RX T C x (S, n, ρ, L, K)) (hq : ∀ j, j < ρ 1 → b = nI j → Q (some (.ref (x + 4 + 5 + j))) C) (hx : ¬ isB ρ b → ∀ z : Nat, gz C ≤ z → X "java/lang/IndexOutOfBoundsException" (wZ C z)) : Mt G M_X4_requireBus [.ref x, .int b] C Q X := by
  refine Mt_of (by decide) (Nat.le_of_ble_eq_true rfl) ?_
  obtain ⟨hk, π, hs, hv⟩ := id hR
  obtain ⟨hK, ⟨g0, g1, g2, g3, g4, g5, g6⟩, hTx, hNow, hHi, ⟨ks, ns, es⟩, ⟨kf, nf⟩, hTr, hPr, hSl, hgz⟩ := id hs
  have kTx := hTx.1
  have kNow := hNow.1
  have kHi := hHi.1
  have kTr := hTr.1
  have kPr := hPr.1
  obtain ⟨vT, vN, vH, vS⟩ : TxV (gI C) (x + 1) S n ∧ VaD (gI C) (x + 4) ρ ∧ HiV (gI C) (x + 17) π L ∧ SlV (gI C) x K := hv
  obtain ⟨ok1, ok2, ok3, ok4, ok5, ok6⟩ : Ok T ρ ∧ (∀ σ, σ ∈ L → Ok T σ) ∧ (∀ i σ, K i = some σ → Ok T σ) ∧ n ≤ 120 ∧ (∀ i, i < n → S i < 256) ∧ L.length ≤ 14 := hk
  obtain ⟨hW, hB⟩ := id ok1
  obtain ⟨b0, b3, b4, b5, b6, b7⟩ := id hB
  obtain ⟨w1, w2, w7, w8, w9, w10, w11, w11', w12, wB, wP⟩ := id hW
  obtain ⟨s0, s1, s2, s3, v4, v5, v6, v7, v8, v9, v10⟩ := SkD_f hNow vN
  refine x_aload_n dX4_requireBus_0 rfl ?_
  refine x_get 6 hO dX4_requireBus_1 f_X4_19 (by first | (simp only [gK_wI]; assumption) | assumption) ⟨by decide, by decide⟩ (v := .ref (x + 4)) (congrArg va_rf g1) ?_
  refine x_iload_n dX4_requireBus_4 rfl ?_
  refine x_callV (As := [_]) 3 hO dX4_requireBus_5 o_X1_busAt v_X1_busAt l_X4_309 ⟨by decide, by decide⟩ (by first | (simp only [gK_wI]; assumption) | assumption) ⟨by decide, by decide⟩ rfl ⟨by decide, by decide⟩ rfl rfl (Nat.le_of_ble_eq_true rfl) (s_busAt hO hNow vN hW (fun j hj hb9 => ?_) (fun hn => ?_))
  · dsimp only [Option.toList, List.cons_append, List.nil_append]
    refine x_astore_n dX4_requireBus_8 (by decide) ?_
    refine x_aload_n dX4_requireBus_9 rfl ?_
    refine x_ifnonnullR (tgt := 24) dX4_requireBus_10 (by decide) ?_
    refine x_aload_n dX4_requireBus_24 rfl ?_
    refine x_aret (r := some _) dX4_requireBus_25 rfl (by first | exact Or.inl ⟨_, rfl⟩ | exact Or.inr ⟨_, rfl⟩) ?_
    exact hq j hj hb9
  · dsimp only [Option.toList, List.cons_append, List.nil_append]
    refine x_astore_nZ dX4_requireBus_8 (by decide) ?_
    refine x_aload_nZ dX4_requireBus_9 rfl ?_
    refine x_ifnonnullZ dX4_requireBus_10 ?_
    refine x_throwSW (names := nmsX) hO hX.1 dX4_requireBus_13 dX4_requireBus_16 dX4_requireBus_17 dX4_requireBus_20 dX4_requireBus_23 fit_167 nms_fit q_X4_163 ini_IndexOutOfBoundsException (hX.2.1 11 _ _ _ rfl) g1_167 dcl g2_167 (dcl_ok hO) (gd_167 _) (Nat.le_of_ble_eq_true rfl) ⟨by decide, by decide⟩ ⟨by decide, by decide⟩ ?_
    exact fun z hz => hx (fun q => by
      obtain ⟨j, hj, e⟩ := (ix_of (by omega)).mp q
      exact hn j hj e) z hz

theorem t_route {G : GT} {C : AH} {Q : QT} {X : XT} {sa va : Nat → Nat} {x T n : Nat} {S : Nat → Nat} {ρ : Rw} {L : List Rw} {K : Nat → Option Rw} {b a l k : Int32} (hO : GO G) (hX : GX G sa va) (hT : T ≤ 40000) (hR : RX T C x (S, n, ρ, L, K)) (hq : (aRoute (S, n, ρ, L, K) b a l k).1 = 0 → ∀ C' : AH, RX (T) C' x (aRoute (S, n, ρ, L, K) b a l k).2.2 → Fr C C' x 255 → Q (some (.int (aRoute (S, n, ρ, L, K) b a l k).2.1)) C') (hx1 : (aRoute (S, n, ρ, L, K) b a l k).1 = 1 → ∀ C' : AH, RX (T) C' x (aRoute (S, n, ρ, L, K) b a l k).2.2 → Fr C C' x 255 → X "java/lang/IndexOutOfBoundsException" C') (hx2 : (aRoute (S, n, ρ, L, K) b a l k).1 = 2 → ∀ C' : AH, RX (T) C' x (aRoute (S, n, ρ, L, K) b a l k).2.2 → Fr C C' x 255 → X "java/lang/IllegalArgumentException" C') (hx3 : (aRoute (S, n, ρ, L, K) b a l k).1 = 3 → ∀ C' : AH, RX (T) C' x (aRoute (S, n, ρ, L, K) b a l k).2.2 → Fr C C' x 255 → X "java/lang/IllegalStateException" C') : Mt G M_X4_route [.ref x, .int b, .int a, .int l, .int k] C Q X := by
  refine Mt_of (by decide) (Nat.le_of_ble_eq_true rfl) ?_
  obtain ⟨hk, π, hs, hv⟩ := id hR
  obtain ⟨hK, ⟨g0, g1, g2, g3, g4, g5, g6⟩, hTx, hNow, hHi, ⟨ks, ns, es⟩, ⟨kf, nf⟩, hTr, hPr, hSl, hgz⟩ := id hs
  have kTx := hTx.1
  have kNow := hNow.1
  have kHi := hHi.1
  have kTr := hTr.1
  have kPr := hPr.1
  obtain ⟨vT, vN, vH, vS⟩ : TxV (gI C) (x + 1) S n ∧ VaD (gI C) (x + 4) ρ ∧ HiV (gI C) (x + 17) π L ∧ SlV (gI C) x K := hv
  obtain ⟨ok1, ok2, ok3, ok4, ok5, ok6⟩ : Ok T ρ ∧ (∀ σ, σ ∈ L → Ok T σ) ∧ (∀ i σ, K i = some σ → Ok T σ) ∧ n ≤ 120 ∧ (∀ i, i < n → S i < 256) ∧ L.length ≤ 14 := hk
  obtain ⟨hW, hB⟩ := id ok1
  obtain ⟨b0, b3, b4, b5, b6, b7⟩ := id hB
  obtain ⟨w1, w2, w7, w8, w9, w10, w11, w11', w12, wB, wP⟩ := id hW
  obtain ⟨s0, s1, s2, s3, v4, v5, v6, v7, v8, v9, v10⟩ := SkD_f hNow vN
  refine x_aload_n dX4_route_0 rfl ?_
  refine x_iload_n dX4_route_1 rfl ?_
  refine x_callV (As := [_]) 6 hO dX4_route_2 o_X4_requireBus v_X4_requireBus l_X4_116 ⟨by decide, by decide⟩ (by first | (simp only [gK_wI]; assumption) | assumption) ⟨by decide, by decide⟩ rfl ⟨by decide, by decide⟩ rfl rfl (Nat.le_of_ble_eq_true rfl) (t_requireBus hO hX hT hR (fun j hj hb9 => ?_) (fun hnb => ?_))
  · dsimp only [Option.toList, List.cons_append, List.nil_append]
    subst hb9
    have vb : ∀ b, b < ρ 1 → ∀ w, w < 7 → gI C (x + 4 + 5 + b) w = nI (ρ (bi b w)) := vN.2.2.2.2.2.2.2.2.1
    have hbus := hNow.2.2.2.2.2.2.2.2.2.2.2.2.2
    have kb := (hbus j (by omega)).2
    have hib : isB ρ (nI j) := (ix_of (by omega)).mpr ⟨j, hj, rfl⟩
    have eA : aRoute (S, n, ρ, L, K) (nI j) a l k = (if okR a l k then (if ρ (bi j 6) = 1 then (3, 0, (S, n, ρ, L, K)) else (0, nI (ρ (bi j 2)), (S, n, rtB ρ j a.toNatClampNeg l.toNatClampNeg k.toNatClampNeg, rem14 L ρ, K))) else (2, 0, (S, n, ρ, L, K))) := by
      unfold aRoute
      rw [if_pos hib, nI_clamp (show j < 2 ^ 31 by omega)]
    rw [eA] at hq hx2 hx3
    refine x_astore dX4_route_5 (by decide) ?_
    refine x_iload_n dX4_route_7 rfl ?_
    refine x_iload_n dX4_route_8 rfl ?_
    refine x_iload dX4_route_9 rfl ?_
    refine x_callS (As := [_, _, _]) hO dX4_route_11 o_X4_isRoute s_X4_isRoute l_X4_223 ⟨by decide, by decide⟩ ⟨by decide, by decide⟩ rfl rfl (Nat.le_of_ble_eq_true rfl) (s_isRoute hO (fun r11 hr11 => ?_))
    dsimp only [Option.toList, List.cons_append, List.nil_append]
    refine x_if_ne (tgt := 27) dX4_route_14 (by decide) (fun c14 => ?_) (fun c14 => ?_)
    · have p11 := (ite01 hr11).2 c14
      rw [if_pos p11] at hq hx3
      refine x_aload dX4_route_27 rfl ?_
      refine x_callS (As := [_]) hO dX4_route_29 o_X4_requireInDepot s_X4_requireInDepot l_X4_229 ⟨by decide, by decide⟩ ⟨by decide, by decide⟩ rfl rfl (Nat.le_of_ble_eq_true rfl) (s_requireInDepot hO hX kb (fun h6 => ?_) (fun h6 => ?_))
      · dsimp only [Option.toList, List.cons_append, List.nil_append]
        rw [vb j hj 6 (by decide)] at h6
        have h6 : ρ (bi j 6) = 0 := by
          have q := (wB j hj).2.2.2.2.2.2.2.2
          rcases (show ρ (bi j 6) = 0 ∨ ρ (bi j 6) = 1 by omega) with e | e
          · exact e
          · rw [e] at h6; exact absurd h6 (by decide)
        rw [if_neg (by omega)] at hq
        refine x_aload_n dX4_route_32 rfl ?_
        refine x_get 6 hO dX4_route_33 f_X4_26 (by first | (simp only [gK_wI]; assumption) | assumption) ⟨by decide, by decide⟩ (v := .ref (x + 17)) (congrArg va_rf g2) ?_
        refine x_aload_n dX4_route_36 rfl ?_
        refine x_get 6 hO dX4_route_37 f_X4_19 (by first | (simp only [gK_wI]; assumption) | assumption) ⟨by decide, by decide⟩ (v := .ref (x + 4)) (congrArg va_rf g1) ?_
        refine x_callV (As := [_]) 4 hO dX4_route_40 o_X2_remember v_X2_remember l_X4_209 ⟨by decide, by decide⟩ (by first | (simp only [gK_wI]; assumption) | assumption) ⟨by decide, by decide⟩ rfl ⟨by decide, by decide⟩ rfl rfl (Nat.le_of_ble_eq_true rfl) (t_remember hO hX hT hR (fun C1 hR1 hF1 => ?_))
        dsimp only [Option.toList, List.cons_append, List.nil_append]
        have hF := hF1
        have hR := hR1
        obtain ⟨hk, π, hs, hv⟩ := id hR
        obtain ⟨hK, ⟨g0, g1, g2, g3, g4, g5, g6⟩, hTx, hNow, hHi, ⟨ks, ns, es⟩, ⟨kf, nf⟩, hTr, hPr, hSl, hgz⟩ := id hs
        have kTx := hTx.1
        have kNow := hNow.1
        have kHi := hHi.1
        have kTr := hTr.1
        have kPr := hPr.1
        obtain ⟨vT, vN, vH, vS⟩ : TxV (gI C1) (x + 1) S n ∧ VaD (gI C1) (x + 4) ρ ∧ HiV (gI C1) (x + 17) π (rem14 L ρ) ∧ SlV (gI C1) x K := hv
        obtain ⟨ok1, ok2, ok3, ok4, ok5, ok6⟩ : Ok T ρ ∧ (∀ σ, σ ∈ rem14 L ρ → Ok T σ) ∧ (∀ i σ, K i = some σ → Ok T σ) ∧ n ≤ 120 ∧ (∀ i, i < n → S i < 256) ∧ (rem14 L ρ).length ≤ 14 := hk
        obtain ⟨hW, hB⟩ := id ok1
        obtain ⟨b0, b3, b4, b5, b6, b7⟩ := id hB
        obtain ⟨w1, w2, w7, w8, w9, w10, w11, w11', w12, wB, wP⟩ := id hW
        obtain ⟨s0, s1, s2, s3, v4, v5, v6, v7, v8, v9, v10⟩ := SkD_f hNow vN
        have vb : ∀ b, b < ρ 1 → ∀ w, w < 7 → gI C1 (x + 4 + 5 + b) w = nI (ρ (bi b w)) := vN.2.2.2.2.2.2.2.2.1
        have hbus := hNow.2.2.2.2.2.2.2.2.2.2.2.2.2
        have kb := (hbus j (by omega)).2
        obtain ⟨a9, l9, k9, rfl, rfl, rfl, hok⟩ := okR_N.mp p11
        have hok9 := hok
        obtain ⟨o1, o2, o3, o4, o5⟩ := hok9
        rw [nI_clamp (by omega), nI_clamp (by omega), nI_clamp (by omega)] at hq
        refine x_aload dX4_route_43 rfl ?_
        refine x_get 2 hO dX4_route_45 f_X4_128 (by first | (simp only [gK_wI]; assumption) | assumption) ⟨by decide, by decide⟩ (v := .int (nI (ρ (bi j 2)))) (congrArg Value.int (vb j hj 2 (by decide))) ?_
        refine x_istore dX4_route_48 (by decide) ?_
        refine x_aload dX4_route_50 rfl ?_
        refine x_iload_n dX4_route_52 rfl ?_
        refine x_iload_n dX4_route_53 rfl ?_
        refine x_iload dX4_route_54 rfl ?_
        refine x_callV (As := [_, _, _]) 2 hO dX4_route_56 o_X0_giveRoute v_X0_giveRoute l_X4_233 ⟨by decide, by decide⟩ (by first | (simp only [gK_wI]; assumption) | assumption) ⟨by decide, by decide⟩ rfl ⟨by decide, by decide⟩ rfl rfl (Nat.le_of_ble_eq_true rfl) (s_X0_giveRoute (C := C1) (h := x + 4 + 5 + j) hO kb ?_)
        dsimp only [Option.toList, List.cons_append, List.nil_append]
        refine x_iload dX4_route_59 rfl ?_
        refine x_iret dX4_route_61 rfl rfl ?_
        exact hq rfl _ (RX_now hR (fun a ha => funext fun q => by rw [up2_n (by omega), up2_n (by omega), up2_n (by omega)]) (VaD_rt hW vN hj) (Nat.le_refl _) (Ok_rtB ok1 (by omega) hok)) (Fr_trans hF (Fr_wI fun a ha => funext fun q => by rw [up2_n (by omega), up2_n (by omega), up2_n (by omega)]))
      · rw [vb j hj 6 (by decide)] at h6
        have h6 : ρ (bi j 6) = 1 := by
          have q := (wB j hj).2.2.2.2.2.2.2.2
          rcases (show ρ (bi j 6) = 0 ∨ ρ (bi j 6) = 1 by omega) with e | e
          · rw [e] at h6; exact absurd h6 (by decide)
          · exact e
        rw [if_pos h6] at hx3
        exact fun z hz => hx3 rfl _ (RX_wZ hR hz) (Fr_wZ hz)
    · have p11 := (ite01 hr11).1 c14
      refine x_throwS (names := nmsX) hO hX.1 dX4_route_17 dX4_route_20 dX4_route_21 dX4_route_23 dX4_route_26 fit_181 nms_fit q_X4_177 ini_IllegalArgumentException (hX.2.1 17 _ _ _ rfl) g1_181 dcl g2_181 (dcl_ok hO) (gd_181 _) (Nat.le_of_ble_eq_true rfl) ⟨by decide, by decide⟩ ⟨by decide, by decide⟩ ?_
      rw [if_neg p11] at hx2
      exact fun z hz => hx2 rfl _ (RX_wZ hR hz) (Fr_wZ hz)
  · have eA : aRoute (S, n, ρ, L, K) b a l k = (1, 0, (S, n, ρ, L, K)) := if_neg hnb
    rw [eA] at hx1
    exact fun z hz => hx1 rfl _ (RX_wZ hR hz) (Fr_wZ hz)
theorem t_battery {G : GT} {C : AH} {Q : QT} {X : XT} {sa va : Nat → Nat} {x T n : Nat} {S : Nat → Nat} {ρ : Rw} {L : List Rw} {K : Nat → Option Rw} {b a : Int32} (hO : GO G) (hX : GX G sa va) (hT : T ≤ 40000) (hR : RX T C x (S, n, ρ, L, K)) (hq : (aBattery (S, n, ρ, L, K) b a).1 = 0 → ∀ C' : AH, RX (T) C' x (aBattery (S, n, ρ, L, K) b a).2.2 → Fr C C' x 255 → Q (some (.int (aBattery (S, n, ρ, L, K) b a).2.1)) C') (hx1 : (aBattery (S, n, ρ, L, K) b a).1 = 1 → ∀ C' : AH, RX (T) C' x (aBattery (S, n, ρ, L, K) b a).2.2 → Fr C C' x 255 → X "java/lang/IndexOutOfBoundsException" C') (hx2 : (aBattery (S, n, ρ, L, K) b a).1 = 2 → ∀ C' : AH, RX (T) C' x (aBattery (S, n, ρ, L, K) b a).2.2 → Fr C C' x 255 → X "java/lang/IllegalArgumentException" C') (hx3 : (aBattery (S, n, ρ, L, K) b a).1 = 3 → ∀ C' : AH, RX (T) C' x (aBattery (S, n, ρ, L, K) b a).2.2 → Fr C C' x 255 → X "java/lang/IllegalStateException" C') : Mt G M_X4_battery [.ref x, .int b, .int a] C Q X := by
  refine Mt_of (by decide) (Nat.le_of_ble_eq_true rfl) ?_
  obtain ⟨hk, π, hs, hv⟩ := id hR
  obtain ⟨hK, ⟨g0, g1, g2, g3, g4, g5, g6⟩, hTx, hNow, hHi, ⟨ks, ns, es⟩, ⟨kf, nf⟩, hTr, hPr, hSl, hgz⟩ := id hs
  have kTx := hTx.1
  have kNow := hNow.1
  have kHi := hHi.1
  have kTr := hTr.1
  have kPr := hPr.1
  obtain ⟨vT, vN, vH, vS⟩ : TxV (gI C) (x + 1) S n ∧ VaD (gI C) (x + 4) ρ ∧ HiV (gI C) (x + 17) π L ∧ SlV (gI C) x K := hv
  obtain ⟨ok1, ok2, ok3, ok4, ok5, ok6⟩ : Ok T ρ ∧ (∀ σ, σ ∈ L → Ok T σ) ∧ (∀ i σ, K i = some σ → Ok T σ) ∧ n ≤ 120 ∧ (∀ i, i < n → S i < 256) ∧ L.length ≤ 14 := hk
  obtain ⟨hW, hB⟩ := id ok1
  obtain ⟨b0, b3, b4, b5, b6, b7⟩ := id hB
  obtain ⟨w1, w2, w7, w8, w9, w10, w11, w11', w12, wB, wP⟩ := id hW
  obtain ⟨s0, s1, s2, s3, v4, v5, v6, v7, v8, v9, v10⟩ := SkD_f hNow vN
  refine x_aload_n dX4_battery_0 rfl ?_
  refine x_iload_n dX4_battery_1 rfl ?_
  refine x_callV (As := [_]) 6 hO dX4_battery_2 o_X4_requireBus v_X4_requireBus l_X4_116 ⟨by decide, by decide⟩ (by first | (simp only [gK_wI]; assumption) | assumption) ⟨by decide, by decide⟩ rfl ⟨by decide, by decide⟩ rfl rfl (Nat.le_of_ble_eq_true rfl) (t_requireBus hO hX hT hR (fun j hj hb9 => ?_) (fun hnb => ?_))
  · dsimp only [Option.toList, List.cons_append, List.nil_append]
    subst hb9
    have vb : ∀ b, b < ρ 1 → ∀ w, w < 7 → gI C (x + 4 + 5 + b) w = nI (ρ (bi b w)) := vN.2.2.2.2.2.2.2.2.1
    have hbus := hNow.2.2.2.2.2.2.2.2.2.2.2.2.2
    have kb := (hbus j (by omega)).2
    have hib : isB ρ (nI j) := (ix_of (by omega)).mpr ⟨j, hj, rfl⟩
    have eA : aBattery (S, n, ρ, L, K) (nI j) a = (if nI 10 ≤ a ∧ a ≤ nI 400 then (if ρ (bi j 6) = 1 then (3, 0, (S, n, ρ, L, K)) else (0, nI (ρ (bi j 0)), (S, n, btB ρ j a.toNatClampNeg, rem14 L ρ, K))) else (2, 0, (S, n, ρ, L, K))) := by
      unfold aBattery
      rw [if_pos hib, nI_clamp (show j < 2 ^ 31 by omega)]
    rw [eA] at hq hx2 hx3
    refine x_astore_n dX4_battery_5 (by decide) ?_
    refine x_iload_n dX4_battery_6 rfl ?_
    refine x_bipush (v := nI 10) dX4_battery_7 (by decide) ?_
    refine x_sipush (v := nI 400) dX4_battery_9 (by decide) ?_
    refine x_callS (As := [_, _, _]) hO dX4_battery_12 o_X4_requireWithin s_X4_requireWithin l_X4_44 ⟨by decide, by decide⟩ ⟨by decide, by decide⟩ rfl rfl (Nat.le_of_ble_eq_true rfl) (s_requireWithin hO hX (fun h5 => ?_) (fun h5 => ?_))
    · dsimp only [Option.toList, List.cons_append, List.nil_append]
      rw [if_pos h5] at hq hx3
      refine x_aload_n dX4_battery_15 rfl ?_
      refine x_callS (As := [_]) hO dX4_battery_16 o_X4_requireInDepot s_X4_requireInDepot l_X4_229 ⟨by decide, by decide⟩ ⟨by decide, by decide⟩ rfl rfl (Nat.le_of_ble_eq_true rfl) (s_requireInDepot hO hX kb (fun h6 => ?_) (fun h6 => ?_))
      · dsimp only [Option.toList, List.cons_append, List.nil_append]
        rw [vb j hj 6 (by decide)] at h6
        have h6 : ρ (bi j 6) = 0 := by
          have q := (wB j hj).2.2.2.2.2.2.2.2
          rcases (show ρ (bi j 6) = 0 ∨ ρ (bi j 6) = 1 by omega) with e | e
          · exact e
          · rw [e] at h6; exact absurd h6 (by decide)
        rw [if_neg (by omega)] at hq
        refine x_aload_n dX4_battery_19 rfl ?_
        refine x_get 6 hO dX4_battery_20 f_X4_26 (by first | (simp only [gK_wI]; assumption) | assumption) ⟨by decide, by decide⟩ (v := .ref (x + 17)) (congrArg va_rf g2) ?_
        refine x_aload_n dX4_battery_23 rfl ?_
        refine x_get 6 hO dX4_battery_24 f_X4_19 (by first | (simp only [gK_wI]; assumption) | assumption) ⟨by decide, by decide⟩ (v := .ref (x + 4)) (congrArg va_rf g1) ?_
        refine x_callV (As := [_]) 4 hO dX4_battery_27 o_X2_remember v_X2_remember l_X4_209 ⟨by decide, by decide⟩ (by first | (simp only [gK_wI]; assumption) | assumption) ⟨by decide, by decide⟩ rfl ⟨by decide, by decide⟩ rfl rfl (Nat.le_of_ble_eq_true rfl) (t_remember hO hX hT hR (fun C1 hR1 hF1 => ?_))
        dsimp only [Option.toList, List.cons_append, List.nil_append]
        have hF := hF1
        have hR := hR1
        obtain ⟨hk, π, hs, hv⟩ := id hR
        obtain ⟨hK, ⟨g0, g1, g2, g3, g4, g5, g6⟩, hTx, hNow, hHi, ⟨ks, ns, es⟩, ⟨kf, nf⟩, hTr, hPr, hSl, hgz⟩ := id hs
        have kTx := hTx.1
        have kNow := hNow.1
        have kHi := hHi.1
        have kTr := hTr.1
        have kPr := hPr.1
        obtain ⟨vT, vN, vH, vS⟩ : TxV (gI C1) (x + 1) S n ∧ VaD (gI C1) (x + 4) ρ ∧ HiV (gI C1) (x + 17) π (rem14 L ρ) ∧ SlV (gI C1) x K := hv
        obtain ⟨ok1, ok2, ok3, ok4, ok5, ok6⟩ : Ok T ρ ∧ (∀ σ, σ ∈ rem14 L ρ → Ok T σ) ∧ (∀ i σ, K i = some σ → Ok T σ) ∧ n ≤ 120 ∧ (∀ i, i < n → S i < 256) ∧ (rem14 L ρ).length ≤ 14 := hk
        obtain ⟨hW, hB⟩ := id ok1
        obtain ⟨b0, b3, b4, b5, b6, b7⟩ := id hB
        obtain ⟨w1, w2, w7, w8, w9, w10, w11, w11', w12, wB, wP⟩ := id hW
        obtain ⟨s0, s1, s2, s3, v4, v5, v6, v7, v8, v9, v10⟩ := SkD_f hNow vN
        have vb : ∀ b, b < ρ 1 → ∀ w, w < 7 → gI C1 (x + 4 + 5 + b) w = nI (ρ (bi b w)) := vN.2.2.2.2.2.2.2.2.1
        have hbus := hNow.2.2.2.2.2.2.2.2.2.2.2.2.2
        have kb := (hbus j (by omega)).2
        obtain ⟨a9, o1, o2, rfl⟩ := (rng (by decide) (by decide)).mp h5
        rw [nI_clamp (by omega)] at hq
        refine x_aload_n dX4_battery_30 rfl ?_
        refine x_get 2 hO dX4_battery_31 f_X4_120 (by first | (simp only [gK_wI]; assumption) | assumption) ⟨by decide, by decide⟩ (v := .int (nI (ρ (bi j 0)))) (congrArg Value.int (vb j hj 0 (by decide))) ?_
        refine x_istore dX4_battery_34 (by decide) ?_
        refine x_aload_n dX4_battery_36 rfl ?_
        refine x_iload_n dX4_battery_37 rfl ?_
        refine x_callV (As := [_]) 2 hO dX4_battery_38 o_X0_giveBattery v_X0_giveBattery l_X4_236 ⟨by decide, by decide⟩ (by first | (simp only [gK_wI]; assumption) | assumption) ⟨by decide, by decide⟩ rfl ⟨by decide, by decide⟩ rfl rfl (Nat.le_of_ble_eq_true rfl) (s_X0_giveBattery (C := C1) (h := x + 4 + 5 + j) hO kb ?_)
        dsimp only [Option.toList, List.cons_append, List.nil_append]
        refine x_iload dX4_battery_41 rfl ?_
        refine x_iret dX4_battery_43 rfl rfl ?_
        exact hq rfl _ (RX_now hR (fun a ha => funext fun q => by rw [up2_n (by omega), up2_n (by omega), up2_n (by omega)]) (VaD_bt hW vN hj) (Nat.le_refl _) (Ok_btB ok1 (by omega) o1 o2)) (Fr_trans hF (Fr_wI fun a ha => funext fun q => by rw [up2_n (by omega), up2_n (by omega), up2_n (by omega)]))
      · rw [vb j hj 6 (by decide)] at h6
        have h6 : ρ (bi j 6) = 1 := by
          have q := (wB j hj).2.2.2.2.2.2.2.2
          rcases (show ρ (bi j 6) = 0 ∨ ρ (bi j 6) = 1 by omega) with e | e
          · rw [e] at h6; exact absurd h6 (by decide)
          · exact e
        rw [if_pos h6] at hx3
        exact fun z hz => hx3 rfl _ (RX_wZ hR hz) (Fr_wZ hz)
    · rw [if_neg h5] at hx2
      exact fun z hz => hx2 rfl _ (RX_wZ hR hz) (Fr_wZ hz)
  · have eA : aBattery (S, n, ρ, L, K) b a = (1, 0, (S, n, ρ, L, K)) := if_neg hnb
    rw [eA] at hx1
    exact fun z hz => hx1 rfl _ (RX_wZ hR hz) (Fr_wZ hz)

