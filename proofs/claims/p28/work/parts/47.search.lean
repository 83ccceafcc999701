/-! searches *)-/
theorem t_leastLimit {G : GT} {C : AH} {Q : QT} {X : XT} {sa va : Nat → Nat} {x T n : Nat} {S : Nat → Nat} {ρ : Rw} {L : List Rw} {K : Nat → Option Rw} {m : Int32} (hO : GO G) (hX : GX G sa va) (hT : T ≤ 40000) (hR : RX T C x (S, n, ρ, L, K)) (hq : (aLeast (S, n, ρ, L, K) m).1 = 0 → ∀ C' : AH, RX (T) C' x (aLeast (S, n, ρ, L, K) m).2.2 → Fr C C' x 255 → Q (some (.int (aLeast (S, n, ρ, L, K) m).2.1)) C') (hx1 : (aLeast (S, n, ρ, L, K) m).1 = 1 → ∀ C' : AH, RX (T) C' x (aLeast (S, n, ρ, L, K) m).2.2 → Fr C C' x 255 → X "java/lang/IllegalArgumentException" C') : Mt G M_X4_leastLimit [.ref x, .int m] C Q X := by
  refine Mt_of (by decide) (Nat.le_of_ble_eq_true rfl) ?_
  obtain ⟨hk, π, hs, hv⟩ := id hR
  obtain ⟨hK, ⟨g0, g1, g2, g3, g4, g5, g6⟩, hTx, hNow, hHi, ⟨ks, ns, es⟩, ⟨kf, nf⟩, hTr, hPr, hSl, hgz⟩ := id hs
  have kTx := hTx.1
  have kNow := hNow.1
  have kHi := hHi.1
  have kTr := hTr.1
  have kPr := hPr.1
  obtain ⟨vT, vN, vH, vS⟩ : TxV (gI C) (x + 1) S n ∧ VaD (gI C) (x + 4) ρ ∧ HiV (gI C) (x + 17) π L ∧ SlV (gI C) x K := hv
  obtain ⟨ok1, ok2, ok3, ok4, ok5, ok6⟩ : Ok T ρ ∧ (∀ σ, σ ∈ L → Ok T σ) ∧ (∀ i σ, K i = some σ → Ok T σ) ∧ n ≤ 120 ∧ (∀ i, i < n → S i < 256) ∧ L.length ≤ 14 := hk
  obtain ⟨hW, hB⟩ := id ok1
  obtain ⟨b0, b3, b4, b5, b6, b7⟩ := id hB
  obtain ⟨w1, w2, w7, w8, w9, w10, w11, w11', w12, wB, wP⟩ := id hW
  obtain ⟨s0, s1, s2, s3, v4, v5, v6, v7, v8, v9, v10⟩ := SkD_f hNow vN
  obtain ⟨al, hstL, hL9⟩ := hX.2.2.2.1
  obtain ⟨am, hstM, hM9⟩ := hX.2.2.2.2.1
  refine x_iload_n dX4_leastLimit_0 rfl ?_
  refine x_iconst (v := nI 1) dX4_leastLimit_1 (by decide) ?_
  refine x_bipush (v := nI 72) dX4_leastLimit_2 (by decide) ?_
  refine x_callS (As := [_, _, _]) hO dX4_leastLimit_4 o_X4_requireWithin s_X4_requireWithin l_X4_44 ⟨by decide, by decide⟩ ⟨by decide, by decide⟩ rfl rfl (Nat.le_of_ble_eq_true rfl) (s_requireWithin hO hX (fun h5 => ?_) (fun h5 => ?_))
  · dsimp only [Option.toList, List.cons_append, List.nil_append]
    obtain ⟨m, hk0, hk9, rfl⟩ := (rng (by decide) (by decide)).mp h5
    have eA : aLeast (S, n, ρ, L, K) (nI m) = (0, llS ρ m 26 0, (S, n, ρ, L, K)) := by
      unfold aLeast
      rw [if_pos h5, nI_clamp (show m < 2 ^ 31 by omega)]
    rw [eA] at hq
    refine x_getsZ hO hstL dX4_leastLimit_7 f_X4_267 ?_
    refine x_iconst (v := nI 0) dX4_leastLimit_10 (by decide) ?_
    refine x_tald _ hL9 dX4_leastLimit_11 rfl (by omega) (by omega) ?_
    refine x_istore_n dX4_leastLimit_12 (by decide) ?_
    have loop : ∀ (kk nn m9 i : Nat) (f : Nat → Nat → Int32), 26 - i = m9 → i ≤ 26 → (∀ a : Nat, (a < x + 203 ∨ x + 216 ≤ a) → f a = gI C a) → llS ρ m 26 0 = llS ρ m (26 - i) i → Ex G M_X4_leastLimit Q X kk nn 13 [(0, .ref x), (1, .int (nI m)), (2, .int (nI (10 * i)))] [] (wI C f) := by
      intro kk nn m9
      induction m9 using Nat.strongRecOn with
      | _ m9 ih =>
      intro i f hm9 hi26 hf hE
      refine x_iload_n dX4_leastLimit_13 rfl ?_
      refine x_getsZ hO hstM dX4_leastLimit_14 f_X4_271 ?_
      refine x_iconst (v := nI 0) dX4_leastLimit_17 (by decide) ?_
      refine x_tald _ hM9 dX4_leastLimit_18 rfl (by omega) (by omega) ?_
      rw [show moS 0 = nI 250 from rfl]
      refine x_icmp_gt (tgt := 39) dX4_leastLimit_19 (by decide) (fun c19 => ?_) (fun c19 => ?_)
      · simp (disch := omega) only [nI_ltI] at c19
        refine x_iconst (v := (-1)) dX4_leastLimit_39 (by decide) ?_
        refine x_iret dX4_leastLimit_40 rfl rfl ?_
        have : i = 26 := by omega
        subst this
        rw [hE] at hq
        exact hq rfl _ (RX_tr hR fun a ha => hf a (by omega)) (Fr_wI fun a ha => hf a (by omega))
      · simp (disch := omega) only [nI_ltI] at c19
        refine x_aload_n dX4_leastLimit_22 rfl ?_
        refine x_iload_n dX4_leastLimit_23 rfl ?_
        refine x_iload_n dX4_leastLimit_24 rfl ?_
        refine x_callV (As := [_, _]) 6 hO dX4_leastLimit_25 o_X4_wouldDo v_X4_wouldDo l_X4_274 ⟨by decide, by decide⟩ (by first | (simp only [gK_wI]; assumption) | assumption) ⟨by decide, by decide⟩ rfl ⟨Nat.zero_le _, Nat.zero_le _⟩ rfl rfl (Nat.le_of_ble_eq_true rfl) (s_wouldDo (C0 := C) (f0 := f) (l := 10 * i) rfl hf hO hX hT hR (by omega) (by omega) (fun r25 g25 hr25 hg25 => ?_))
        dsimp only [Option.toList, List.cons_append, List.nil_append]
        refine x_if_eq (tgt := 33) dX4_leastLimit_28 (by decide) (fun c28 => ?_) (fun c28 => ?_)
        · have p25 := (ite01 hr25).1 c28
          refine x_iinc (v := nI 10) dX4_leastLimit_33 rfl (by decide) (by decide) ?_
          refine x_goto (tgt := 13) dX4_leastLimit_36 (by decide) ?_
          try simp only [wI_wI]
          refine x_ls [(0, .ref x), (1, .int (nI m)), (2, .int (nI (10 * (i + 1))))] ⟨rfl, rfl, (by rw [show 10 * (i + 1) = 10 * i + 10 by omega, ← nI_add]; rfl), trivial⟩ ?_
          refine ih (m9 - 1) (by omega) (i + 1) g25 (by omega) (by omega) hg25 ?_
          rw [hE, show 26 - i = 26 - (i + 1) + 1 by omega]
          show (if wd ρ (10 * i) m then _ else _) = _
          rw [if_neg p25]
        · have p25 := (ite01 hr25).2 c28
          refine x_iload_n dX4_leastLimit_31 rfl ?_
          refine x_iret dX4_leastLimit_32 rfl rfl ?_
          rw [hE, show 26 - i = 26 - (i + 1) + 1 by omega] at hq
          have e9 : llS ρ m (26 - (i + 1) + 1) i = nI (10 * i) := if_pos p25
          rw [e9] at hq
          exact hq rfl _ (RX_tr hR fun a ha => hg25 a (by omega)) (Fr_wI fun a ha => hg25 a (by omega))
    refine x_ls [(0, .ref x), (1, .int (nI m)), (2, .int (nI (10 * 0)))] ⟨rfl, rfl, rfl, trivial⟩ ?_
    exact loop _ _ _ 0 (gI C) rfl (by decide) (fun _ _ => rfl) rfl
  · have eA : aLeast (S, n, ρ, L, K) m = (1, 0, (S, n, ρ, L, K)) := if_neg h5
    rw [eA] at hx1
    exact fun z hz => hx1 rfl _ (RX_wZ hR hz) (Fr_wZ hz)

theorem t_bestNight {G : GT} {C : AH} {Q : QT} {X : XT} {sa va : Nat → Nat} {x T n : Nat} {S : Nat → Nat} {ρ : Rw} {L : List Rw} {K : Nat → Option Rw} {m : Int32} (hO : GO G) (hX : GX G sa va) (hT : T ≤ 40000) (hR : RX T C x (S, n, ρ, L, K)) (hq : (aBest (S, n, ρ, L, K) m).1 = 0 → ∀ C' : AH, RX (T) C' x (aBest (S, n, ρ, L, K) m).2.2 → Fr C C' x 255 → Q (some (.int (aBest (S, n, ρ, L, K) m).2.1)) C') (hx1 : (aBest (S, n, ρ, L, K) m).1 = 1 → ∀ C' : AH, RX (T) C' x (aBest (S, n, ρ, L, K) m).2.2 → Fr C C' x 255 → X "java/lang/IllegalArgumentException" C') : Mt G M_X4_bestNight [.ref x, .int m] C Q X := by
  refine Mt_of (by decide) (Nat.le_of_ble_eq_true rfl) ?_
  obtain ⟨hk, π, hs, hv⟩ := id hR
  obtain ⟨hK, ⟨g0, g1, g2, g3, g4, g5, g6⟩, hTx, hNow, hHi, ⟨ks, ns, es⟩, ⟨kf, nf⟩, hTr, hPr, hSl, hgz⟩ := id hs
  have kTx := hTx.1
  have kNow := hNow.1
  have kHi := hHi.1
  have kTr := hTr.1
  have kPr := hPr.1
  obtain ⟨vT, vN, vH, vS⟩ : TxV (gI C) (x + 1) S n ∧ VaD (gI C) (x + 4) ρ ∧ HiV (gI C) (x + 17) π L ∧ SlV (gI C) x K := hv
  obtain ⟨ok1, ok2, ok3, ok4, ok5, ok6⟩ : Ok T ρ ∧ (∀ σ, σ ∈ L → Ok T σ) ∧ (∀ i σ, K i = some σ → Ok T σ) ∧ n ≤ 120 ∧ (∀ i, i < n → S i < 256) ∧ L.length ≤ 14 := hk
  obtain ⟨hW, hB⟩ := id ok1
  obtain ⟨b0, b3, b4, b5, b6, b7⟩ := id hB
  obtain ⟨w1, w2, w7, w8, w9, w10, w11, w11', w12, wB, wP⟩ := id hW
  obtain ⟨s0, s1, s2, s3, v4, v5, v6, v7, v8, v9, v10⟩ := SkD_f hNow vN
  refine x_iload_n dX4_bestNight_0 rfl ?_
  refine x_iconst (v := nI 1) dX4_bestNight_1 (by decide) ?_
  refine x_bipush (v := nI 72) dX4_bestNight_2 (by decide) ?_
  refine x_callS (As := [_, _, _]) hO dX4_bestNight_4 o_X4_requireWithin s_X4_requireWithin l_X4_44 ⟨by decide, by decide⟩ ⟨by decide, by decide⟩ rfl rfl (Nat.le_of_ble_eq_true rfl) (s_requireWithin hO hX (fun h5 => ?_) (fun h5 => ?_))
  · dsimp only [Option.toList, List.cons_append, List.nil_append]
    obtain ⟨m, hk0, hk9, rfl⟩ := (rng (by decide) (by decide)).mp h5
    have eA : aBest (S, n, ρ, L, K) (nI m) = (0, nI (bsS (cst ρ m) 23).1, (S, n, ρ, L, K)) := by
      unfold aBest
      rw [if_pos h5, nI_clamp (show m < 2 ^ 31 by omega)]
    rw [eA] at hq
    refine x_iconst (v := nI 0) dX4_bestNight_7 (by decide) ?_
    refine x_istore_n dX4_bestNight_8 (by decide) ?_
    refine x_aload_n dX4_bestNight_9 rfl ?_
    refine x_iconst (v := nI 0) dX4_bestNight_10 (by decide) ?_
    refine x_iload_n dX4_bestNight_11 rfl ?_
    refine x_callV (As := [_, _]) 6 hO dX4_bestNight_12 o_X4_costOfNight v_X4_costOfNight l_X4_277 ⟨by decide, by decide⟩ (by first | (simp only [gK_wI]; assumption) | assumption) ⟨by decide, by decide⟩ rfl ⟨by decide, by decide⟩ rfl rfl (Nat.le_of_ble_eq_true rfl) (s_costOfNight (C0 := C) (f0 := gI C) (l := 0) wI_self.symm (fun _ _ => rfl) hO hX hT hR (by omega) (by omega) (fun g12 hg12 => ?_))
    dsimp only [Option.toList, List.cons_append, List.nil_append]
    refine x_istore_n dX4_bestNight_15 (by decide) ?_
    refine x_iconst (v := nI 1) dX4_bestNight_16 (by decide) ?_
    refine x_istore dX4_bestNight_17 (by decide) ?_
    have loop : ∀ (kk nn m9 i : Nat) (f : Nat → Nat → Int32), 23 - i = m9 → i ≤ 23 → (∀ a : Nat, (a < x + 203 ∨ x + 216 ≤ a) → f a = gI C a) → Ex G M_X4_bestNight Q X kk nn 19 [(0, .ref x), (1, .int (nI m)), (2, .int (nI (bsS (cst ρ m) i).1)), (3, .int (bsS (cst ρ m) i).2), (4, .int (nI (i + 1)))] [] (wI C f) := by
      intro kk nn m9
      induction m9 using Nat.strongRecOn with
      | _ m9 ih =>
      intro i f hm9 hi26 hf
      refine x_iload dX4_bestNight_19 rfl ?_
      refine x_bipush (v := nI 24) dX4_bestNight_21 (by decide) ?_
      refine x_icmp_ge (tgt := 53) dX4_bestNight_23 (by decide) (fun c23 => ?_) (fun c23 => ?_)
      · simp (disch := omega) only [nI_leI] at c23
        refine x_iload_n dX4_bestNight_53 rfl ?_
        refine x_iret dX4_bestNight_54 rfl rfl ?_
        have : i = 23 := by omega
        subst this
        exact hq rfl _ (RX_tr hR fun a ha => hf a (by omega)) (Fr_wI fun a ha => hf a (by omega))
      · simp (disch := omega) only [nI_leI] at c23
        refine x_aload_n dX4_bestNight_26 rfl ?_
        refine x_iload dX4_bestNight_27 rfl ?_
        refine x_iload_n dX4_bestNight_29 rfl ?_
        refine x_callV (As := [_, _]) 6 hO dX4_bestNight_30 o_X4_costOfNight v_X4_costOfNight l_X4_277 ⟨by decide, by decide⟩ (by first | (simp only [gK_wI]; assumption) | assumption) ⟨by decide, by decide⟩ rfl ⟨Nat.zero_le _, Nat.zero_le _⟩ rfl rfl (Nat.le_of_ble_eq_true rfl) (s_costOfNight (C0 := C) (f0 := f) (l := i + 1) rfl hf hO hX hT hR (by omega) (by omega) (fun g30 hg30 => ?_))
        dsimp only [Option.toList, List.cons_append, List.nil_append]
        refine x_istore dX4_bestNight_33 (by decide) ?_
        refine x_iload dX4_bestNight_35 rfl ?_
        refine x_iload_n dX4_bestNight_37 rfl ?_
        refine x_icmp_ge (tgt := 47) dX4_bestNight_38 (by decide) (fun c38 => ?_) (fun c38 => ?_)
        · refine x_iinc (v := nI 1) dX4_bestNight_47 rfl (by decide) (by decide) ?_
          refine x_goto (tgt := 19) dX4_bestNight_50 (by decide) ?_
          try simp only [wI_wI]
          have hb9 : bsS (cst ρ m) (i + 1) = bsS (cst ρ m) i := if_neg (Int32.not_lt.mpr c38)
          refine x_ls [(0, .ref x), (1, .int (nI m)), (2, .int (nI (bsS (cst ρ m) (i + 1)).1)), (3, .int (bsS (cst ρ m) (i + 1)).2), (4, .int (nI (i + 1 + 1)))] ⟨rfl, rfl, (by rw [hb9]; rfl), (by rw [hb9]; rfl), (by rw [← nI_add]; rfl), trivial⟩ ?_
          exact ih (m9 - 1) (by omega) (i + 1) g30 (by omega) (by omega) hg30
        · refine x_iload dX4_bestNight_41 rfl ?_
          refine x_istore_n dX4_bestNight_43 (by decide) ?_
          refine x_iload dX4_bestNight_44 rfl ?_
          refine x_istore_n dX4_bestNight_46 (by decide) ?_
          refine x_iinc (v := nI 1) dX4_bestNight_47 rfl (by decide) (by decide) ?_
          refine x_goto (tgt := 19) dX4_bestNight_50 (by decide) ?_
          try simp only [wI_wI]
          have hb9 : bsS (cst ρ m) (i + 1) = (i + 1, cst ρ m (i + 1)) := if_pos (Int32.not_le.mp c38)
          refine x_ls [(0, .ref x), (1, .int (nI m)), (2, .int (nI (bsS (cst ρ m) (i + 1)).1)), (3, .int (bsS (cst ρ m) (i + 1)).2), (4, .int (nI (i + 1 + 1)))] ⟨rfl, rfl, (by rw [hb9]; rfl), (by rw [hb9]; rfl), (by rw [← nI_add]; rfl), trivial⟩ ?_
          exact ih (m9 - 1) (by omega) (i + 1) g30 (by omega) (by omega) hg30
    try simp only [wI_self]
    refine x_ls [(0, .ref x), (1, .int (nI m)), (2, .int (nI (bsS (cst ρ m) 0).1)), (3, .int (bsS (cst ρ m) 0).2), (4, .int (nI (0 + 1)))] ⟨rfl, rfl, rfl, rfl, rfl, trivial⟩ ?_
    exact loop _ _ _ 0 g12 rfl (by decide) hg12
  · have eA : aBest (S, n, ρ, L, K) m = (1, 0, (S, n, ρ, L, K)) := if_neg h5
    rw [eA] at hx1
    exact fun z hz => hx1 rfl _ (RX_wZ hR hz) (Fr_wZ hz)

theorem t_firstMissed {G : GT} {C : AH} {Q : QT} {X : XT} {sa va : Nat → Nat} {x T n : Nat} {S : Nat → Nat} {ρ : Rw} {L : List Rw} {K : Nat → Option Rw} {b : Int32} (hO : GO G) (hX : GX G sa va) (hT : T ≤ 40000) (hR : RX T C x (S, n, ρ, L, K)) (hq : (aFirst (S, n, ρ, L, K) b).1 = 0 → ∀ C' : AH, RX (T) C' x (aFirst (S, n, ρ, L, K) b).2.2 → Fr C C' x 255 → Q (some (.int (aFirst (S, n, ρ, L, K) b).2.1)) C') (hx1 : (aFirst (S, n, ρ, L, K) b).1 = 1 → ∀ C' : AH, RX (T) C' x (aFirst (S, n, ρ, L, K) b).2.2 → Fr C C' x 255 → X "java/lang/IndexOutOfBoundsException" C') : Mt G M_X4_firstMissed [.ref x, .int b] C Q X := by
  refine Mt_of (by decide) (Nat.le_of_ble_eq_true rfl) ?_
  obtain ⟨hk, π, hs, hv⟩ := id hR
  obtain ⟨hK, ⟨g0, g1, g2, g3, g4, g5, g6⟩, hTx, hNow, hHi, ⟨ks, ns, es⟩, ⟨kf, nf⟩, hTr, hPr, hSl, hgz⟩ := id hs
  have kTx := hTx.1
  have kNow := hNow.1
  have kHi := hHi.1
  have kTr := hTr.1
  have kPr := hPr.1
  obtain ⟨vT, vN, vH, vS⟩ : TxV (gI C) (x + 1) S n ∧ VaD (gI C) (x + 4) ρ ∧ HiV (gI C) (x + 17) π L ∧ SlV (gI C) x K := hv
  obtain ⟨ok1, ok2, ok3, ok4, ok5, ok6⟩ : Ok T ρ ∧ (∀ σ, σ ∈ L → Ok T σ) ∧ (∀ i σ, K i = some σ → Ok T σ) ∧ n ≤ 120 ∧ (∀ i, i < n → S i < 256) ∧ L.length ≤ 14 := hk
  obtain ⟨hW, hB⟩ := id ok1
  obtain ⟨b0, b3, b4, b5, b6, b7⟩ := id hB
  obtain ⟨w1, w2, w7, w8, w9, w10, w11, w11', w12, wB, wP⟩ := id hW
  obtain ⟨s0, s1, s2, s3, v4, v5, v6, v7, v8, v9, v10⟩ := SkD_f hNow vN
  refine x_aload_n dX4_firstMissed_0 rfl ?_
  refine x_iload_n dX4_firstMissed_1 rfl ?_
  refine x_callV (As := [_]) 6 hO dX4_firstMissed_2 o_X4_requireBus v_X4_requireBus l_X4_116 ⟨by decide, by decide⟩ (by first | (simp only [gK_wI]; assumption) | assumption) ⟨by decide, by decide⟩ rfl ⟨by decide, by decide⟩ rfl rfl (Nat.le_of_ble_eq_true rfl) (t_requireBus hO hX hT hR (fun j hj hb9 => ?_) (fun hnb => ?_))
  · dsimp only [Option.toList, List.cons_append, List.nil_append]
    subst hb9
    have vb : ∀ b, b < ρ 1 → ∀ w, w < 7 → gI C (x + 4 + 5 + b) w = nI (ρ (bi b w)) := vN.2.2.2.2.2.2.2.2.1
    have hbus := hNow.2.2.2.2.2.2.2.2.2.2.2.2.2
    have kb := (hbus j (by omega)).2
    have hib : isB ρ (nI j) := (ix_of (by omega)).mpr ⟨j, hj, rfl⟩
    have eA : aFirst (S, n, ρ, L, K) (nI j) = (0, fmS j 72 ρ, (S, n, ρ, L, K)) := by
      unfold aFirst
      rw [if_pos hib, nI_clamp (show j < 2 ^ 31 by omega)]
    rw [eA] at hq
    refine x_pop dX4_firstMissed_5 rfl ?_
    refine x_aload_n dX4_firstMissed_6 rfl ?_
    refine x_get 6 hO dX4_firstMissed_7 f_X4_38 (by first | (simp only [gK_wI]; assumption) | assumption) ⟨by decide, by decide⟩ (v := .ref (x + 203)) (congrArg va_rf g5) ?_
    refine x_aload_n dX4_firstMissed_10 rfl ?_
    refine x_get 6 hO dX4_firstMissed_11 f_X4_19 (by first | (simp only [gK_wI]; assumption) | assumption) ⟨by decide, by decide⟩ (v := .ref (x + 4)) (congrArg va_rf g1) ?_
    refine x_callV (As := [_]) 3 hO dX4_firstMissed_14 o_X1_becomeLike v_X1_becomeLike l_X4_261 ⟨by decide, by decide⟩ (by first | (simp only [gK_wI]; assumption) | assumption) ⟨by decide, by decide⟩ rfl ⟨by decide, by decide⟩ rfl rfl (Nat.le_of_ble_eq_true rfl) (s_becomeLike hO hTr hNow vN hW (by omega) (fun f p1 p2 => ?_))
    dsimp only [Option.toList, List.cons_append, List.nil_append]
    refine x_iconst (v := nI 0) dX4_firstMissed_17 (by decide) ?_
    refine x_istore_n dX4_firstMissed_18 (by decide) ?_
    have loop : ∀ (kk nn m9 i : Nat) (f : Nat → Nat → Int32), 72 - i = m9 → i ≤ 72 → VaD f (x + 203) (runN i ρ) → (∀ a : Nat, (a < x + 203 ∨ x + 216 ≤ a) → f a = gI C a) → fmS j 72 ρ = fmS j (72 - i) (runN i ρ) → Ex G M_X4_firstMissed Q X kk nn 19 [(0, .ref x), (1, .int (nI j)), (2, .int (nI i))] [] (wI C f) := by
      intro kk nn m9
      induction m9 using Nat.strongRecOn with
      | _ m9 ih =>
      intro i f hm9 hi72 hVf hf hE
      obtain ⟨hW2, hB2, hn1⟩ := runN_ok (n := i) hW hB
      refine x_iload_n dX4_firstMissed_19 rfl ?_
      refine x_bipush (v := nI 72) dX4_firstMissed_20 (by decide) ?_
      refine x_icmp_ge (tgt := 58) dX4_firstMissed_22 (by decide) (fun c22 => ?_) (fun c22 => ?_)
      · simp (disch := omega) only [nI_leI] at c22
        refine x_iconst (v := (-1)) dX4_firstMissed_58 (by decide) ?_
        refine x_iret dX4_firstMissed_59 rfl rfl ?_
        have : i = 72 := by omega
        subst this
        rw [hE] at hq
        exact hq rfl _ (RX_tr hR fun a ha => hf a (by omega)) (Fr_wI fun a ha => hf a (by omega))
      · simp (disch := omega) only [nI_leI] at c22
        refine x_aload_n dX4_firstMissed_25 rfl ?_
        refine x_get 6 hO dX4_firstMissed_26 f_X4_38 (by first | (simp only [gK_wI]; assumption) | assumption) ⟨by decide, by decide⟩ (v := .ref (x + 203)) (congrArg va_rf g5) ?_
        refine x_iload_n dX4_firstMissed_29 rfl ?_
        refine x_callV (As := [_]) 3 hO dX4_firstMissed_30 o_X1_isMissedNow v_X1_isMissedNow l_X4_264 ⟨by decide, by decide⟩ (by first | (simp only [gK_wI]; assumption) | assumption) ⟨by decide, by decide⟩ rfl ⟨Nat.zero_le _, Nat.zero_le _⟩ rfl rfl (Nat.le_of_ble_eq_true rfl) (s_isMissedNow (C := wI C f) hO hTr hVf hW2 (by have := hB2.1; omega) (by rw [hn1]; exact hj) (fun r30 hr30 => ?_))
        dsimp only [Option.toList, List.cons_append, List.nil_append]
        refine x_if_eq (tgt := 44) dX4_firstMissed_33 (by decide) (fun c33 => ?_) (fun c33 => ?_)
        · have p30 := (ite01 hr30).1 c33
          refine x_aload_n dX4_firstMissed_44 rfl ?_
          refine x_get 6 hO dX4_firstMissed_45 f_X4_38 (by first | (simp only [gK_wI]; assumption) | assumption) ⟨by decide, by decide⟩ (v := .ref (x + 203)) (congrArg va_rf g5) ?_
          refine x_iconst (v := nI 1) dX4_firstMissed_48 (by decide) ?_
          refine x_callV (As := [_]) 3 hO dX4_firstMissed_49 o_X1_passHours v_X1_passHours l_X4_240 ⟨by decide, by decide⟩ (by first | (simp only [gK_wI]; assumption) | assumption) ⟨by decide, by decide⟩ rfl ⟨Nat.zero_le _, Nat.zero_le _⟩ rfl rfl (Nat.le_of_ble_eq_true rfl) (s_passHours (C := wI C f) (n := 1) hO hTr hVf hW2 hB2 (by omega) (fun g2 h1 h2 => ?_))
          dsimp only [Option.toList, List.cons_append, List.nil_append]
          refine x_iinc (v := nI 1) dX4_firstMissed_52 rfl (by decide) (by decide) ?_
          refine x_goto (tgt := 19) dX4_firstMissed_55 (by decide) ?_
          try simp only [wI_wI]
          refine x_ls [(0, .ref x), (1, .int (nI j)), (2, .int (nI (i + 1)))] ⟨rfl, rfl, (by rw [← nI_add]; rfl), trivial⟩ ?_
          refine ih (m9 - 1) (by omega) (i + 1) g2 (by omega) (by omega) h1 (fun a ha => (h2 a (by omega)).trans (hf a ha)) ?_
          rw [hE, show 72 - i = 72 - (i + 1) + 1 by omega]
          show (if msd (runN i ρ) j then _ else _) = _
          rw [if_neg p30]
          rfl
        · have p30 := (ite01 hr30).2 c33
          refine x_aload_n dX4_firstMissed_36 rfl ?_
          refine x_get 6 hO dX4_firstMissed_37 f_X4_38 (by first | (simp only [gK_wI]; assumption) | assumption) ⟨by decide, by decide⟩ (v := .ref (x + 203)) (congrArg va_rf g5) ?_
          refine x_get 3 hO dX4_firstMissed_40 f_X4_89 (by first | (simp only [gK_wI]; assumption) | assumption) ⟨by decide, by decide⟩ (v := .int (nI (runN i ρ 0))) (congrArg Value.int hVf.2.2.1) ?_
          refine x_iret dX4_firstMissed_43 rfl rfl ?_
          rw [hE, show 72 - i = 72 - (i + 1) + 1 by omega] at hq
          have e9 : fmS j (72 - (i + 1) + 1) (runN i ρ) = nI (runN i ρ 0) := if_pos p30
          rw [e9] at hq
          exact hq rfl _ (RX_tr hR fun a ha => hf a (by omega)) (Fr_wI fun a ha => hf a (by omega))
    refine x_ls [(0, .ref x), (1, .int (nI j)), (2, .int (nI 0))] ⟨rfl, rfl, rfl, trivial⟩ ?_
    exact loop _ _ _ 0 f rfl (by decide) p1 (fun a ha => p2 a (by omega)) rfl
  · have eA : aFirst (S, n, ρ, L, K) b = (1, 0, (S, n, ρ, L, K)) := if_neg hnb
    rw [eA] at hx1
    exact fun z hz => hx1 rfl _ (RX_wZ hR hz) (Fr_wZ hz)

