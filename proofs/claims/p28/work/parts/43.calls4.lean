/-! undo, save, restore, load *)-/
theorem t_undo {G : GT} {C : AH} {Q : QT} {X : XT} {sa va : Nat → Nat} {x T n : Nat} {S : Nat → Nat} {ρ : Rw} {L : List Rw} {K : Nat → Option Rw} (hO : GO G) (hX : GX G sa va) (hT : T ≤ 40000) (hR : RX T C x (S, n, ρ, L, K)) (hq : (aUndo (S, n, ρ, L, K)).1 = 0 → ∀ C' : AH, RX (T) C' x (aUndo (S, n, ρ, L, K)).2.2 → Fr C C' x 255 → Q (some (.int (aUndo (S, n, ρ, L, K)).2.1)) C') (hx1 : (aUndo (S, n, ρ, L, K)).1 = 1 → ∀ C' : AH, RX (T) C' x (aUndo (S, n, ρ, L, K)).2.2 → Fr C C' x 255 → X "java/lang/IllegalStateException" C') : Mt G M_X4_undo [.ref x] C Q X := by
  refine Mt_of (by decide) (Nat.le_of_ble_eq_true rfl) ?_
  rcases List.eq_nil_or_concat L with rfl | ⟨L2, σ, rfl⟩
  · obtain ⟨hk, π, hs, hv⟩ := id hR
    obtain ⟨hK, ⟨g0, g1, g2, g3, g4, g5, g6⟩, hTx, hNow, hHi, ⟨ks, ns, es⟩, ⟨kf, nf⟩, hTr, hPr, hSl, hgz⟩ := id hs
    have kTx := hTx.1
    have kNow := hNow.1
    have kHi := hHi.1
    have kTr := hTr.1
    have kPr := hPr.1
    obtain ⟨vT, vN, vH, vS⟩ : TxV (gI C) (x + 1) S n ∧ VaD (gI C) (x + 4) ρ ∧ HiV (gI C) (x + 17) π [] ∧ SlV (gI C) x K := hv
    obtain ⟨ok1, ok2, ok3, ok4, ok5, ok6⟩ : Ok T ρ ∧ (∀ σ, σ ∈ [] → Ok T σ) ∧ (∀ i σ, K i = some σ → Ok T σ) ∧ n ≤ 120 ∧ (∀ i, i < n → S i < 256) ∧ ([] : List Rw).length ≤ 14 := hk
    obtain ⟨hW, hB⟩ := id ok1
    obtain ⟨b0, b3, b4, b5, b6, b7⟩ := id hB
    obtain ⟨w1, w2, w7, w8, w9, w10, w11, w11', w12, wB, wP⟩ := id hW
    obtain ⟨s0, s1, s2, s3, v4, v5, v6, v7, v8, v9, v10⟩ := SkD_f hNow vN
    refine x_aload_n dX4_undo_0 rfl ?_
    refine x_get 6 hO dX4_undo_1 f_X4_26 (by first | (simp only [gK_wI]; assumption) | assumption) ⟨by decide, by decide⟩ (v := .ref (x + 17)) (congrArg va_rf g2) ?_
    refine x_callV (As := []) 4 hO dX4_undo_4 o_X2_isEmpty v_X2_isEmpty l_X4_253 ⟨by decide, by decide⟩ (by first | (simp only [gK_wI]; assumption) | assumption) ⟨by decide, by decide⟩ rfl ⟨by decide, by decide⟩ rfl rfl (Nat.le_of_ble_eq_true rfl) (s_isEmpty hO kHi vH.1 vH.2.1 (fun r4 hr4 => ?_))
    dsimp only [Option.toList, List.cons_append, List.nil_append]
    refine x_if_eq (tgt := 21) dX4_undo_7 (by decide) (fun c7 => ?_) (fun c7 => ?_)
    · exact absurd ((ite01 hr4).1 c7) (fun q => q rfl)
    · have p4 := (ite01 hr4).2 c7
      refine x_throwSW (names := nmsX) hO hX.1 dX4_undo_10 dX4_undo_13 dX4_undo_14 dX4_undo_17 dX4_undo_20 fit_56 nms_fit q_X4_52 ini_IllegalStateException (hX.2.1 20 _ _ _ rfl) g1_56 dcl g2_56 (dcl_ok hO) (gd_56 _) (Nat.le_of_ble_eq_true rfl) ⟨by decide, by decide⟩ ⟨by decide, by decide⟩ ?_
      exact fun z hz => hx1 rfl _ (RX_wZ hR hz) (Fr_wZ hz)
  · rw [List.concat_eq_append] at *
    obtain ⟨hk, π, hs, hv⟩ := id hR
    obtain ⟨hK, ⟨g0, g1, g2, g3, g4, g5, g6⟩, hTx, hNow, hHi, ⟨ks, ns, es⟩, ⟨kf, nf⟩, hTr, hPr, hSl, hgz⟩ := id hs
    have kTx := hTx.1
    have kNow := hNow.1
    have kHi := hHi.1
    have kTr := hTr.1
    have kPr := hPr.1
    obtain ⟨vT, vN, vH, vS⟩ : TxV (gI C) (x + 1) S n ∧ VaD (gI C) (x + 4) ρ ∧ HiV (gI C) (x + 17) π (L2 ++ [σ]) ∧ SlV (gI C) x K := hv
    obtain ⟨ok1, ok2, ok3, ok4, ok5, ok6⟩ : Ok T ρ ∧ (∀ τ, τ ∈ L2 ++ [σ] → Ok T τ) ∧ (∀ i σ, K i = some σ → Ok T σ) ∧ n ≤ 120 ∧ (∀ i, i < n → S i < 256) ∧ (L2 ++ [σ]).length ≤ 14 := hk
    obtain ⟨hW, hB⟩ := id ok1
    obtain ⟨b0, b3, b4, b5, b6, b7⟩ := id hB
    obtain ⟨w1, w2, w7, w8, w9, w10, w11, w11', w12, wB, wP⟩ := id hW
    obtain ⟨s0, s1, s2, s3, v4, v5, v6, v7, v8, v9, v10⟩ := SkD_f hNow vN
    have eA : aUndo (S, n, ρ, L2 ++ [σ], K) = (0, nI L2.length, (S, n, σ, L2, K)) := by
      simp [aUndo]
    rw [eA] at hq
    refine x_aload_n dX4_undo_0 rfl ?_
    refine x_get 6 hO dX4_undo_1 f_X4_26 (by first | (simp only [gK_wI]; assumption) | assumption) ⟨by decide, by decide⟩ (v := .ref (x + 17)) (congrArg va_rf g2) ?_
    refine x_callV (As := []) 4 hO dX4_undo_4 o_X2_isEmpty v_X2_isEmpty l_X4_253 ⟨by decide, by decide⟩ (by first | (simp only [gK_wI]; assumption) | assumption) ⟨by decide, by decide⟩ rfl ⟨by decide, by decide⟩ rfl rfl (Nat.le_of_ble_eq_true rfl) (s_isEmpty hO kHi vH.1 vH.2.1 (fun r4 hr4 => ?_))
    dsimp only [Option.toList, List.cons_append, List.nil_append]
    refine x_if_eq (tgt := 21) dX4_undo_7 (by decide) (fun c7 => ?_) (fun c7 => ?_)
    · have p4 := (ite01 hr4).1 c7
      refine x_aload_n dX4_undo_21 rfl ?_
      refine x_get 6 hO dX4_undo_22 f_X4_26 (by first | (simp only [gK_wI]; assumption) | assumption) ⟨by decide, by decide⟩ (v := .ref (x + 17)) (congrArg va_rf g2) ?_
      refine x_aload_n dX4_undo_25 rfl ?_
      refine x_get 6 hO dX4_undo_26 f_X4_19 (by first | (simp only [gK_wI]; assumption) | assumption) ⟨by decide, by decide⟩ (v := .ref (x + 4)) (congrArg va_rf g1) ?_
      refine x_callV (As := [_]) 4 hO dX4_undo_29 o_X2_takeBack v_X2_takeBack l_X4_258 ⟨by decide, by decide⟩ (by first | (simp only [gK_wI]; assumption) | assumption) ⟨by decide, by decide⟩ rfl ⟨by decide, by decide⟩ rfl rfl (Nat.le_of_ble_eq_true rfl) (s_takeBack hO hHi vH hNow (by omega) (fun f hf1 hf2 hf3 => ?_))
      dsimp only [Option.toList, List.cons_append, List.nil_append]
      refine x_iret dX4_undo_32 rfl rfl ?_
      refine hq rfl _ ⟨⟨ok2 σ (List.mem_append_right _ (List.mem_singleton.mpr rfl)), fun τ q => ok2 τ (List.mem_append_left _ q), ok3, ok4, ok5, ?_⟩, π, hs, TxV_in vT (congrFun (hf2 _ (by omega) (by omega)) 1) (hf2 _ (by omega) (by omega)), hf1, hf3, SlV_in vS (hf2 _ (by omega) (by omega)) fun a h1 h2 => hf2 a (by omega) (by omega)⟩ (Fr_wI fun a ha => hf2 a (by omega) (by omega))
      rw [List.length_append] at ok6
      exact Nat.le_trans (Nat.le_add_right _ _) ok6
    · have q := (ite01 hr4).2 c7
      rw [List.length_append] at q
      exact absurd q (Nat.succ_ne_zero _)

theorem t_save {G : GT} {C : AH} {Q : QT} {X : XT} {sa va : Nat → Nat} {x T n : Nat} {S : Nat → Nat} {ρ : Rw} {L : List Rw} {K : Nat → Option Rw} {v : Int32} (hO : GO G) (hX : GX G sa va) (hT : T ≤ 40000) (hR : RX T C x (S, n, ρ, L, K)) (hq : (aSave (S, n, ρ, L, K) v).1 = 0 → ∀ C' : AH, RX (T) C' x (aSave (S, n, ρ, L, K) v).2.2 → Fr C C' x 255 → Q (some (.int (aSave (S, n, ρ, L, K) v).2.1)) C') (hx1 : (aSave (S, n, ρ, L, K) v).1 = 1 → ∀ C' : AH, RX (T) C' x (aSave (S, n, ρ, L, K) v).2.2 → Fr C C' x 255 → X "java/lang/IndexOutOfBoundsException" C') : Mt G M_X4_save [.ref x, .int v] C Q X := by
  refine Mt_of (by decide) (Nat.le_of_ble_eq_true rfl) ?_
  obtain ⟨hk, π, hs, hv⟩ := id hR
  obtain ⟨hK, ⟨g0, g1, g2, g3, g4, g5, g6⟩, hTx, hNow, hHi, ⟨ks, ns, es⟩, ⟨kf, nf⟩, hTr, hPr, hSl, hgz⟩ := id hs
  have kTx := hTx.1
  have kNow := hNow.1
  have kHi := hHi.1
  have kTr := hTr.1
  have kPr := hPr.1
  obtain ⟨vT, vN, vH, vS⟩ : TxV (gI C) (x + 1) S n ∧ VaD (gI C) (x + 4) ρ ∧ HiV (gI C) (x + 17) π L ∧ SlV (gI C) x K := hv
  obtain ⟨ok1, ok2, ok3, ok4, ok5, ok6⟩ : Ok T ρ ∧ (∀ σ, σ ∈ L → Ok T σ) ∧ (∀ i σ, K i = some σ → Ok T σ) ∧ n ≤ 120 ∧ (∀ i, i < n → S i < 256) ∧ L.length ≤ 14 := hk
  obtain ⟨hW, hB⟩ := id ok1
  obtain ⟨b0, b3, b4, b5, b6, b7⟩ := id hB
  obtain ⟨w1, w2, w7, w8, w9, w10, w11, w11', w12, wB, wP⟩ := id hW
  obtain ⟨s0, s1, s2, s3, v4, v5, v6, v7, v8, v9, v10⟩ := SkD_f hNow vN
  refine x_iload_n dX4_save_0 rfl ?_
  refine x_callS (As := [_]) hO dX4_save_1 o_X4_requireSlot s_X4_requireSlot l_X4_299 ⟨by decide, by decide⟩ ⟨by decide, by decide⟩ rfl rfl (Nat.le_of_ble_eq_true rfl) (s_requireSlot hO hX (fun h5 => ?_) (fun h5 => ?_))
  · dsimp only [Option.toList, List.cons_append, List.nil_append]
    obtain ⟨i, hk0, hk9, rfl⟩ := (rng (by decide) (by decide)).mp h5
    have hi2 : i < 2 := by omega
    have kSl := (hSl i hi2).1
    have eA : aSave (S, n, ρ, L, K) (nI i) = (0, nI (ρ 0), (S, n, ρ, L, fun j => if j = i then some ρ else K j)) := by
      unfold aSave
      rw [if_pos h5, nI_clamp (by omega)]
    rw [eA] at hq
    refine x_aload_n dX4_save_4 rfl ?_
    refine x_get 6 hO dX4_save_5 f_X4_30 (by first | (simp only [gK_wI]; assumption) | assumption) ⟨by decide, by decide⟩ (v := .ref (x + 201)) (congrArg va_rf g3) ?_
    refine x_iload_n dX4_save_8 rfl ?_
    refine x_aald 26 i 2 hO dX4_save_9 (by first | (simp only [gK_wI]; assumption) | assumption) (by decide) rfl (by first | (simp only [gN_wI]; assumption) | assumption) (by omega) (by decide) ?_
    rw [es i hi2]
    refine x_aload_n dX4_save_10 rfl ?_
    refine x_get 6 hO dX4_save_11 f_X4_19 (by first | (simp only [gK_wI]; assumption) | assumption) ⟨by decide, by decide⟩ (v := .ref (x + 4)) (congrArg va_rf g1) ?_
    refine x_callV (As := [_]) 3 hO dX4_save_14 o_X1_becomeLike v_X1_becomeLike l_X4_261 ⟨by decide, by decide⟩ (by first | (simp only [gK_wI]; assumption) | assumption) ⟨by decide, by decide⟩ rfl ⟨by decide, by decide⟩ rfl rfl (Nat.le_of_ble_eq_true rfl) (s_becomeLike hO (hSl i hi2) hNow vN hW (by omega) (fun f hf1 hf2 => ?_))
    dsimp only [Option.toList, List.cons_append, List.nil_append]
    refine x_aload_n dX4_save_17 rfl ?_
    refine x_get 6 hO dX4_save_18 f_X4_34 (by first | (simp only [gK_wI]; assumption) | assumption) ⟨by decide, by decide⟩ (v := .ref (x + 202)) (congrArg va_rf g4) ?_
    refine x_iload_n dX4_save_21 rfl ?_
    refine x_iconst (v := nI 1) dX4_save_22 (by decide) ?_
    refine x_zast _ _ (by first | exact Or.inl rfl | exact Or.inr rfl | assumption) hO dX4_save_23 (by first | (simp only [gK_wI]; assumption) | assumption) rfl (by first | (simp only [gN_wI]; assumption) | assumption) (by omega) (by decide) ?_
    refine x_aload_n dX4_save_24 rfl ?_
    refine x_get 6 hO dX4_save_25 f_X4_19 (by first | (simp only [gK_wI]; assumption) | assumption) ⟨by decide, by decide⟩ (v := .ref (x + 4)) (congrArg va_rf g1) ?_
    refine x_get 3 hO dX4_save_28 f_X4_89 (by first | (simp only [gK_wI]; assumption) | assumption) ⟨by decide, by decide⟩ (v := .int (nI (ρ 0))) (congrArg Value.int ((up2_n (by omega)).trans ((congrFun (hf2 (x + 4) (by omega)) 6).trans vN.2.2.1))) ?_
    refine x_iret dX4_save_31 rfl rfl ?_
    simp only [wI_wI, gI_wI]
    have hg : ∀ a, (a ≠ x + 202) → (a < x + 229 + 13 * i ∨ x + 229 + 13 * i + 13 ≤ a) → up2 f (x + 202) i (nI 1) a = gI C a := fun a h1 h2 => by
      rw [← hf2 a h2]
      exact funext fun j => up2_n (by omega)
    refine hq rfl _ ⟨⟨ok1, ok2, fun j σ q => ?_, ok4, ok5, ok6⟩, π, hs, TxV_in vT (congrFun (hg _ (by omega) (by omega)) 1) (hg _ (by omega) (by omega)), VaD_in hW vN fun a h1 h2 => hg a (by omega) (by omega), HiV_in hHi vH fun a h1 h2 => hg a (by omega) (by omega), fun j hj => ?_⟩ (Fr_wI fun a ha => hg a (by omega) (by omega))
    · have q : (if j = i then some ρ else K j) = some σ := q
      by_cases e : j = i
      · rw [if_pos e] at q
        cases q
        exact ok1
      · rw [if_neg e] at q
        exact ok3 j σ q
    · show ((if j = i then some ρ else K j) = none → _) ∧ ∀ σ, (if j = i then some ρ else K j) = some σ → _
      by_cases e : j = i
      · subst e
        rw [if_pos rfl]
        refine ⟨fun q => absurd q (by simp), fun σ q => ?_⟩
        cases q
        exact ⟨up2_s, hW, VaD_in hW hf1 fun a h1 h2 => funext fun q => up2_n (by omega)⟩
      · rw [if_neg e]
        obtain ⟨u1, u2⟩ := vS j hj
        have e2 : up2 f (x + 202) i (nI 1) (x + 202) j = gI C (x + 202) j := by
          rw [up2_n (by omega), hf2 (x + 202) (by omega)]
        refine ⟨fun q => e2.trans (u1 q), fun σ q => ?_⟩
        obtain ⟨y1, y2, y3⟩ := u2 σ q
        exact ⟨e2.trans y1, y2, VaD_in y2 y3 fun a h1 h2 => hg a (by omega) (by omega)⟩
  · have eA : aSave (S, n, ρ, L, K) v = (1, 0, (S, n, ρ, L, K)) := if_neg h5
    rw [eA] at hx1
    exact fun z hz => hx1 rfl _ (RX_wZ hR hz) (Fr_wZ hz)
theorem t_restore {G : GT} {C : AH} {Q : QT} {X : XT} {sa va : Nat → Nat} {x T n : Nat} {S : Nat → Nat} {ρ : Rw} {L : List Rw} {K : Nat → Option Rw} {v : Int32} (hO : GO G) (hX : GX G sa va) (hT : T ≤ 40000) (hR : RX T C x (S, n, ρ, L, K)) (hq : (aRestore (S, n, ρ, L, K) v).1 = 0 → ∀ C' : AH, RX (T) C' x (aRestore (S, n, ρ, L, K) v).2.2 → Fr C C' x 255 → Q (some (.int (aRestore (S, n, ρ, L, K) v).2.1)) C') (hx1 : (aRestore (S, n, ρ, L, K) v).1 = 1 → ∀ C' : AH, RX (T) C' x (aRestore (S, n, ρ, L, K) v).2.2 → Fr C C' x 255 → X "java/lang/IndexOutOfBoundsException" C') (hx2 : (aRestore (S, n, ρ, L, K) v).1 = 2 → ∀ C' : AH, RX (T) C' x (aRestore (S, n, ρ, L, K) v).2.2 → Fr C C' x 255 → X "java/lang/IllegalStateException" C') : Mt G M_X4_restore [.ref x, .int v] C Q X := by
  refine Mt_of (by decide) (Nat.le_of_ble_eq_true rfl) ?_
  obtain ⟨hk, π, hs, hv⟩ := id hR
  obtain ⟨hK, ⟨g0, g1, g2, g3, g4, g5, g6⟩, hTx, hNow, hHi, ⟨ks, ns, es⟩, ⟨kf, nf⟩, hTr, hPr, hSl, hgz⟩ := id hs
  have kTx := hTx.1
  have kNow := hNow.1
  have kHi := hHi.1
  have kTr := hTr.1
  have kPr := hPr.1
  obtain ⟨vT, vN, vH, vS⟩ : TxV (gI C) (x + 1) S n ∧ VaD (gI C) (x + 4) ρ ∧ HiV (gI C) (x + 17) π L ∧ SlV (gI C) x K := hv
  obtain ⟨ok1, ok2, ok3, ok4, ok5, ok6⟩ : Ok T ρ ∧ (∀ σ, σ ∈ L → Ok T σ) ∧ (∀ i σ, K i = some σ → Ok T σ) ∧ n ≤ 120 ∧ (∀ i, i < n → S i < 256) ∧ L.length ≤ 14 := hk
  obtain ⟨hW, hB⟩ := id ok1
  obtain ⟨b0, b3, b4, b5, b6, b7⟩ := id hB
  obtain ⟨w1, w2, w7, w8, w9, w10, w11, w11', w12, wB, wP⟩ := id hW
  obtain ⟨s0, s1, s2, s3, v4, v5, v6, v7, v8, v9, v10⟩ := SkD_f hNow vN
  refine x_iload_n dX4_restore_0 rfl ?_
  refine x_callS (As := [_]) hO dX4_restore_1 o_X4_requireSlot s_X4_requireSlot l_X4_299 ⟨by decide, by decide⟩ ⟨by decide, by decide⟩ rfl rfl (Nat.le_of_ble_eq_true rfl) (s_requireSlot hO hX (fun h5 => ?_) (fun h5 => ?_))
  · dsimp only [Option.toList, List.cons_append, List.nil_append]
    obtain ⟨i, hk0, hk9, rfl⟩ := (rng (by decide) (by decide)).mp h5
    have hi2 : i < 2 := by omega
    have kSl := (hSl i hi2).1
    obtain ⟨u1, u2⟩ := vS i hi2
    cases hKi : K i with
    | none =>
      have eA : aRestore (S, n, ρ, L, K) (nI i) = (2, 0, (S, n, ρ, L, K)) := by
        unfold aRestore
        rw [if_pos h5, nI_clamp (by omega)]
        show (match K i with | none => _ | some σ => _) = _
        rw [hKi]
      rw [eA] at hx2
      have u1 := u1 hKi
      refine x_aload_n dX4_restore_4 rfl ?_
      refine x_get 6 hO dX4_restore_5 f_X4_34 (by first | (simp only [gK_wI]; assumption) | assumption) ⟨by decide, by decide⟩ (v := .ref (x + 202)) (congrArg va_rf g4) ?_
      refine x_iload_n dX4_restore_8 rfl ?_
      refine x_zald _ _ hO dX4_restore_9 (by first | (simp only [gK_wI]; assumption) | assumption) rfl (by first | (simp only [gN_wI]; assumption) | assumption) (by omega) (by decide) (fun z9 => ?_)
      rw [u1]
      refine x_if_ne (tgt := 24) dX4_restore_10 (by decide) (fun c10 => ?_) (fun c10 => ?_)
      · exact absurd rfl c10
      · refine x_throwSW (names := nmsX) hO hX.1 dX4_restore_13 dX4_restore_16 dX4_restore_17 dX4_restore_20 dX4_restore_23 fit_56 nms_fit q_X4_52 ini_IllegalStateException (hX.2.1 23 _ _ _ rfl) g1_56 dcl g2_56 (dcl_ok hO) (gd_56 _) (Nat.le_of_ble_eq_true rfl) ⟨by decide, by decide⟩ ⟨by decide, by decide⟩ ?_
        exact fun z hz => hx2 rfl _ (RX_wZ hR hz) (Fr_wZ hz)
    | some σ =>
      have eA : aRestore (S, n, ρ, L, K) (nI i) = (0, nI (σ 0), (S, n, σ, [], K)) := by
        unfold aRestore
        rw [if_pos h5, nI_clamp (by omega)]
        show (match K i with | none => _ | some σ => _) = _
        rw [hKi]
      rw [eA] at hq
      obtain ⟨y1, y2, y3⟩ := u2 σ hKi
      refine x_aload_n dX4_restore_4 rfl ?_
      refine x_get 6 hO dX4_restore_5 f_X4_34 (by first | (simp only [gK_wI]; assumption) | assumption) ⟨by decide, by decide⟩ (v := .ref (x + 202)) (congrArg va_rf g4) ?_
      refine x_iload_n dX4_restore_8 rfl ?_
      refine x_zald _ _ hO dX4_restore_9 (by first | (simp only [gK_wI]; assumption) | assumption) rfl (by first | (simp only [gN_wI]; assumption) | assumption) (by omega) (by decide) (fun z9 => ?_)
      rw [y1]
      refine x_if_ne (tgt := 24) dX4_restore_10 (by decide) (fun c10 => ?_) (fun c10 => ?_)
      · refine x_aload_n dX4_restore_24 rfl ?_
        refine x_get 6 hO dX4_restore_25 f_X4_19 (by first | (simp only [gK_wI]; assumption) | assumption) ⟨by decide, by decide⟩ (v := .ref (x + 4)) (congrArg va_rf g1) ?_
        refine x_aload_n dX4_restore_28 rfl ?_
        refine x_get 6 hO dX4_restore_29 f_X4_30 (by first | (simp only [gK_wI]; assumption) | assumption) ⟨by decide, by decide⟩ (v := .ref (x + 201)) (congrArg va_rf g3) ?_
        refine x_iload_n dX4_restore_32 rfl ?_
        refine x_aald 26 i 2 hO dX4_restore_33 (by first | (simp only [gK_wI]; assumption) | assumption) (by decide) rfl (by first | (simp only [gN_wI]; assumption) | assumption) (by omega) (by decide) ?_
        rw [es i hi2]
        refine x_callV (As := [_]) 3 hO dX4_restore_34 o_X1_becomeLike v_X1_becomeLike l_X4_261 ⟨by decide, by decide⟩ (by first | (simp only [gK_wI]; assumption) | assumption) ⟨by decide, by decide⟩ rfl ⟨by decide, by decide⟩ rfl rfl (Nat.le_of_ble_eq_true rfl) (s_becomeLike hO hNow (hSl i hi2) y3 y2 (by omega) (fun f hf1 hf2 => ?_))
        dsimp only [Option.toList, List.cons_append, List.nil_append]
        refine x_aload_n dX4_restore_37 rfl ?_
        refine x_get 6 hO dX4_restore_38 f_X4_26 (by first | (simp only [gK_wI]; assumption) | assumption) ⟨by decide, by decide⟩ (v := .ref (x + 17)) (congrArg va_rf g2) ?_
        refine x_callV (As := []) 4 hO dX4_restore_41 o_X2_forgetAll v_X2_forgetAll l_X4_75 ⟨by decide, by decide⟩ (by first | (simp only [gK_wI]; assumption) | assumption) ⟨by decide, by decide⟩ rfl ⟨by decide, by decide⟩ rfl rfl (Nat.le_of_ble_eq_true rfl) (s_forgetAll (C := wI C f) hO kHi ?_)
        dsimp only [Option.toList, List.cons_append, List.nil_append]
        refine x_aload_n dX4_restore_44 rfl ?_
        refine x_get 6 hO dX4_restore_45 f_X4_19 (by first | (simp only [gK_wI]; assumption) | assumption) ⟨by decide, by decide⟩ (v := .ref (x + 4)) (congrArg va_rf g1) ?_
        refine x_get 3 hO dX4_restore_48 f_X4_89 (by first | (simp only [gK_wI]; assumption) | assumption) ⟨by decide, by decide⟩ (v := .int (nI (σ 0))) (congrArg Value.int ((up2_n (by omega)).trans hf1.2.2.1)) ?_
        refine x_iret dX4_restore_51 rfl rfl ?_
        simp only [wI_wI, gI_wI]
        have hg : ∀ a, (a ≠ x + 17) → (a < x + 4 ∨ x + 17 ≤ a) → up2 f (x + 17) 1 (nI 0) a = gI C a := fun a h1 h2 => by
          rw [← hf2 a (by omega)]
          exact funext fun j => up2_n (by omega)
        refine hq rfl _ ⟨⟨ok3 i σ hKi, fun τ q => absurd q (by simp), ok3, ok4, ok5, Nat.zero_le _⟩, π, hs, TxV_in vT (congrFun (hg _ (by omega) (by omega)) 1) (hg _ (by omega) (by omega)), VaD_in y2 hf1 fun a h1 h2 => funext fun j => up2_n (by omega), ⟨up2_s, Nat.zero_le _, fun j τ q => absurd q (by simp)⟩, SlV_in vS (hg _ (by omega) (by omega)) fun a h1 h2 => hg a (by omega) (by omega)⟩ (Fr_wI fun a ha => hg a (by omega) (by omega))
      · exact absurd c10 (by decide)
  · have eA : aRestore (S, n, ρ, L, K) v = (1, 0, (S, n, ρ, L, K)) := if_neg h5
    rw [eA] at hx1
    exact fun z hz => hx1 rfl _ (RX_wZ hR hz) (Fr_wZ hz)

theorem pAll_le {S : Nat → Nat} {n f p q : Nat} (h : pAll S n f p = some q) : q ≤ n ∨ n < p := by
  induction f generalizing p with
  | zero =>
    have h : some p = some q := h
    cases h
    omega
  | succ f ih =>
    have h : (if (pCmd S n p).1 = true then (if (pCmd S n p).2.1 = n then none else if ch S n (pCmd S n p).2.1 = 59 then pAll S n f ((pCmd S n p).2.1 + 1) else some (pCmd S n p).2.1) else some (pCmd S n p).2.1) = some q := h
    by_cases hp : p ≤ n
    · have hle := (pCmd_le (S := S) hp).2
      left
      split at h
      · split at h
        · cases h
        · split at h
          · rename_i e
            have := ch_lt (S := S) (n := n) e (by decide)
            have := ih h
            omega
          · cases h
            exact hle
      · cases h
        exact hle
    · omega
theorem t_load {G : GT} {C : AH} {Q : QT} {X : XT} {sa va : Nat → Nat} {x T n : Nat} {S : Nat → Nat} {ρ : Rw} {L : List Rw} {K : Nat → Option Rw} (hO : GO G) (hX : GX G sa va) (hT : T ≤ 40000) (hR : RX T C x (S, n, ρ, L, K)) (h6 : 6000 ≤ T) (hq : (aLoad (S, n, ρ, L, K)).1 = 0 → ∀ C' : AH, RX (T) C' x (aLoad (S, n, ρ, L, K)).2.2 → Fr C C' x 255 → Q (some (.int (aLoad (S, n, ρ, L, K)).2.1)) C') (hx1 : (aLoad (S, n, ρ, L, K)).1 = 1 → ∀ C' : AH, RX (T) C' x (aLoad (S, n, ρ, L, K)).2.2 → Fr C C' x 255 → X "java/lang/IllegalStateException" C') : Mt G M_X4_load [.ref x] C Q X := by
  refine Mt_of (by decide) (Nat.le_of_ble_eq_true rfl) ?_
  obtain ⟨hk, π, hs, hv⟩ := id hR
  obtain ⟨hK, ⟨g0, g1, g2, g3, g4, g5, g6⟩, hTx, hNow, hHi, ⟨ks, ns, es⟩, ⟨kf, nf⟩, hTr, hPr, hSl, hgz⟩ := id hs
  have kTx := hTx.1
  have kNow := hNow.1
  have kHi := hHi.1
  have kTr := hTr.1
  have kPr := hPr.1
  obtain ⟨vT, vN, vH, vS⟩ : TxV (gI C) (x + 1) S n ∧ VaD (gI C) (x + 4) ρ ∧ HiV (gI C) (x + 17) π L ∧ SlV (gI C) x K := hv
  obtain ⟨ok1, ok2, ok3, ok4, ok5, ok6⟩ : Ok T ρ ∧ (∀ σ, σ ∈ L → Ok T σ) ∧ (∀ i σ, K i = some σ → Ok T σ) ∧ n ≤ 120 ∧ (∀ i, i < n → S i < 256) ∧ L.length ≤ 14 := hk
  obtain ⟨hW, hB⟩ := id ok1
  obtain ⟨b0, b3, b4, b5, b6, b7⟩ := id hB
  obtain ⟨w1, w2, w7, w8, w9, w10, w11, w11', w12, wB, wP⟩ := id hW
  obtain ⟨s0, s1, s2, s3, v4, v5, v6, v7, v8, v9, v10⟩ := SkD_f hNow vN
  have tail : ∀ f7 : Nat → Nat → Int32, pAll S n (n + 1) 0 = none → TxV f7 (x + 1) S n → VaD f7 (x + 4) new0 → f7 (x + 17) 1 = nI 0 → f7 (x + 202) 0 = 0 → f7 (x + 202) 1 = 0 → (∀ a, (a < x ∨ x + 255 ≤ a) → f7 a = gI C a) → Ex G M_X4_load Q X (mC M_X4_load) (mS M_X4_load)  59 [(0, .ref x)] [] (wI C f7) := by
    intro f7 hA hT7 hV7 h17 h20 h21 hg7
    refine x_aload_n dX4_load_59 rfl ?_
    refine x_get 6 hO dX4_load_60 f_X4_12 (by first | (simp only [gK_wI]; assumption) | assumption) ⟨by decide, by decide⟩ (v := .ref (x + 1)) (congrArg va_rf g0) ?_
    refine x_aload_n dX4_load_63 rfl ?_
    refine x_get 6 hO dX4_load_64 f_X4_19 (by first | (simp only [gK_wI]; assumption) | assumption) ⟨by decide, by decide⟩ (v := .ref (x + 4)) (congrArg va_rf g1) ?_
    refine x_callV (As := [_]) 5 hO dX4_load_67 o_X3_doAllIn v_X3_doAllIn l_X4_78 ⟨by decide, by decide⟩ (by first | (simp only [gK_wI]; assumption) | assumption) ⟨by decide, by decide⟩ rfl ⟨by decide, by decide⟩ rfl rfl (Nat.le_of_ble_eq_true rfl) (s_doAllIn (C := wI C f7) (T := 0) hO hTx hT7 hX hNow hV7 Ok_new (by decide) (by omega) hA (fun lo σ f e1 e2 e3 e4 e5 => ?_))
    dsimp only [Option.toList, List.cons_append, List.nil_append]
    refine x_iret dX4_load_70 rfl rfl ?_
    simp only [wI_wI, gI_wI] at *
    have eA : aLoad (S, n, ρ, L, K) = (0, nI lo, (S, n, σ, [], fun _ => none)) := by
      unfold aLoad
      show (match pAll S n (n + 1) 0 with | none => _ | some _ => _) = _
      rw [hA]
      show (0, nI (dAll S n (n + 1) 0 (new0, 0)).2, (S, n, (dAll S n (n + 1) 0 (new0, 0)).1, ([] : List Rw), fun _ => (none : Option Rw))) = _
      rw [e1]
    rw [eA] at hq
    refine hq rfl _ ⟨⟨Ok_mono e2 (by omega), fun τ q => absurd q (by simp), fun i τ q => absurd q (by simp), ok4, ok5, Nat.zero_le _⟩, π, hs, ?_, e3, ?_, ?_⟩ (Fr_wI fun a ha => ?_)
    · exact TxV_in hT7 (e4 1 (by omega) (by omega)) (e5 (x + 1 + 1) (by omega) (by omega) (by omega))
    · refine ⟨?_, Nat.zero_le _, fun j τ q => absurd q (by simp)⟩
      show f (x + 17) 1 = nI 0
      rw [e5 (x + 17) (by omega) (by omega) (by omega)]
      exact h17
    · refine fun i hi => ⟨fun _ => ?_, fun τ q => absurd q (by simp)⟩
      show f (x + 202) i = 0
      rw [e5 (x + 202) (by omega) (by omega) (by omega)]
      match i, hi with
      | 0, _ => exact h20
      | 1, _ => exact h21
    · rw [e5 a (by omega) (by omega) (by omega)]
      exact hg7 a ha
  have clr : ∀ f6 : Nat → Nat → Int32, pAll S n (n + 1) 0 = none → TxV f6 (x + 1) S n → VaD f6 (x + 4) new0 → f6 (x + 17) 1 = nI 0 → (∀ a, (a < x ∨ x + 255 ≤ a) → f6 a = gI C a) → Ex G M_X4_load Q X (mC M_X4_load) (mS M_X4_load)  37 [(0, .ref x), (1, .int (nI 0))] [] (wI C f6) := by
    intro f6 hA hT6 hV6 h17 hg6
    refine x_iload_n dX4_load_37 rfl ?_
    refine x_aload_n dX4_load_38 rfl ?_
    refine x_get 6 hO dX4_load_39 f_X4_34 (by first | (simp only [gK_wI]; assumption) | assumption) ⟨by decide, by decide⟩ (v := .ref (x + 202)) (congrArg va_rf g4) ?_
    refine x_alen 21 _ hO dX4_load_42 (by first | (simp only [gK_wI]; assumption) | assumption) ⟨by decide, by decide⟩ (by first | (simp only [gN_wI]; assumption) | assumption) ?_
    refine x_icmp_ge (tgt := 59) dX4_load_43 (by decide) (fun c43 => ?_) (fun c43 => ?_)
    · exact absurd c43 (by decide)
    · refine x_aload_n dX4_load_46 rfl ?_
      refine x_get 6 hO dX4_load_47 f_X4_34 (by first | (simp only [gK_wI]; assumption) | assumption) ⟨by decide, by decide⟩ (v := .ref (x + 202)) (congrArg va_rf g4) ?_
      refine x_iload_n dX4_load_50 rfl ?_
      refine x_iconst (v := nI 0) dX4_load_51 (by decide) ?_
      refine x_zast 0 2 (Or.inl rfl) hO dX4_load_52 kf rfl nf (by decide) (by decide) ?_
      refine x_iinc (v := nI 1) dX4_load_53 rfl (by decide) (by decide) ?_
      refine x_goto (tgt := 37) dX4_load_56 (by decide) ?_
      simp only [wI_wI, gI_wI]
      refine x_ls [(0, .ref x), (1, .int (nI 1))] ⟨rfl, rfl, trivial⟩ ?_
      refine x_iload_n dX4_load_37 rfl ?_
      refine x_aload_n dX4_load_38 rfl ?_
      refine x_get 6 hO dX4_load_39 f_X4_34 (by first | (simp only [gK_wI]; assumption) | assumption) ⟨by decide, by decide⟩ (v := .ref (x + 202)) (congrArg va_rf g4) ?_
      refine x_alen 21 _ hO dX4_load_42 (by first | (simp only [gK_wI]; assumption) | assumption) ⟨by decide, by decide⟩ (by first | (simp only [gN_wI]; assumption) | assumption) ?_
      refine x_icmp_ge (tgt := 59) dX4_load_43 (by decide) (fun c43 => ?_) (fun c43 => ?_)
      · exact absurd c43 (by decide)
      · refine x_aload_n dX4_load_46 rfl ?_
        refine x_get 6 hO dX4_load_47 f_X4_34 (by first | (simp only [gK_wI]; assumption) | assumption) ⟨by decide, by decide⟩ (v := .ref (x + 202)) (congrArg va_rf g4) ?_
        refine x_iload_n dX4_load_50 rfl ?_
        refine x_iconst (v := nI 0) dX4_load_51 (by decide) ?_
        refine x_zast 1 2 (Or.inl rfl) hO dX4_load_52 kf rfl nf (by decide) (by decide) ?_
        refine x_iinc (v := nI 1) dX4_load_53 rfl (by decide) (by decide) ?_
        refine x_goto (tgt := 37) dX4_load_56 (by decide) ?_
        simp only [wI_wI, gI_wI]
        refine x_ls [(0, .ref x), (1, .int (nI 2))] ⟨rfl, rfl, trivial⟩ ?_
        refine x_iload_n dX4_load_37 rfl ?_
        refine x_aload_n dX4_load_38 rfl ?_
        refine x_get 6 hO dX4_load_39 f_X4_34 (by first | (simp only [gK_wI]; assumption) | assumption) ⟨by decide, by decide⟩ (v := .ref (x + 202)) (congrArg va_rf g4) ?_
        refine x_alen 21 _ hO dX4_load_42 (by first | (simp only [gK_wI]; assumption) | assumption) ⟨by decide, by decide⟩ (by first | (simp only [gN_wI]; assumption) | assumption) ?_
        refine x_icmp_ge (tgt := 59) dX4_load_43 (by decide) (fun c43 => ?_) (fun c43 => ?_)
        · refine x_ls [(0, .ref x)] ⟨rfl, trivial⟩ ?_
          refine tail _ hA ?_ ?_ ?_ ?_ up2_s ?_
          · refine TxV_in hT6 ?_ (funext fun j => ?_)
            · rw [up2_n (by omega), up2_n (by omega)]
            · rw [up2_n (by omega), up2_n (by omega)]
          · exact VaD_in Ok_new.1 hV6 fun a h1 h2 => funext fun j => by rw [up2_n (by omega), up2_n (by omega)]
          · rw [up2_n (by omega), up2_n (by omega)]
            exact h17
          · rw [up2_n (by omega)]
            exact up2_s
          · intro a ha
            rw [← hg6 a ha]
            exact funext fun j => by rw [up2_n (by omega), up2_n (by omega)]
        · exact absurd (show nI 2 ≤ nI 2 by decide) c43
  refine x_aload_n dX4_load_0 rfl ?_
  refine x_get 6 hO dX4_load_1 f_X4_12 (by first | (simp only [gK_wI]; assumption) | assumption) ⟨by decide, by decide⟩ (v := .ref (x + 1)) (congrArg va_rf g0) ?_
  refine x_callV (As := []) 5 hO dX4_load_4 o_X3_findError v_X3_findError l_X4_67 ⟨by decide, by decide⟩ (by first | (simp only [gK_wI]; assumption) | assumption) ⟨by decide, by decide⟩ rfl ⟨by decide, by decide⟩ rfl rfl (Nat.le_of_ble_eq_true rfl) (s_findError hO hTx vT hX (fun r4 f1 p1 p2 p3 => ?_))
  dsimp only [Option.toList, List.cons_append, List.nil_append]
  refine x_iconst (v := (-1)) dX4_load_7 (by decide) ?_
  refine x_icmp_eq (tgt := 21) dX4_load_8 (by decide) (fun c8 => ?_) (fun c8 => ?_)
  · have hA : pAll S n (n + 1) 0 = none := by
      cases e : pAll S n (n + 1) 0 with
      | none => rfl
      | some p =>
        rw [e] at p1
        have hp := pAll_le e
        exact absurd (p1.symm.trans c8) (nI_m1 (by omega))
    refine x_aload_n dX4_load_21 rfl ?_
    refine x_get 6 hO dX4_load_22 f_X4_19 (by first | (simp only [gK_wI]; assumption) | assumption) ⟨by decide, by decide⟩ (v := .ref (x + 4)) (congrArg va_rf g1) ?_
    refine x_callV (As := []) 3 hO dX4_load_25 o_X1_becomeNew v_X1_becomeNew l_X4_72 ⟨by decide, by decide⟩ (by first | (simp only [gK_wI]; assumption) | assumption) ⟨by decide, by decide⟩ rfl ⟨by decide, by decide⟩ rfl rfl (Nat.le_of_ble_eq_true rfl) (s_becomeNew (C := wI C f1) hO hX hNow (fun f hf1 hf2 => ?_))
    dsimp only [Option.toList, List.cons_append, List.nil_append]
    refine x_aload_n dX4_load_28 rfl ?_
    refine x_get 6 hO dX4_load_29 f_X4_26 (by first | (simp only [gK_wI]; assumption) | assumption) ⟨by decide, by decide⟩ (v := .ref (x + 17)) (congrArg va_rf g2) ?_
    refine x_callV (As := []) 4 hO dX4_load_32 o_X2_forgetAll v_X2_forgetAll l_X4_75 ⟨by decide, by decide⟩ (by first | (simp only [gK_wI]; assumption) | assumption) ⟨by decide, by decide⟩ rfl ⟨by decide, by decide⟩ rfl rfl (Nat.le_of_ble_eq_true rfl) (s_forgetAll (C := wI C f) hO kHi ?_)
    dsimp only [Option.toList, List.cons_append, List.nil_append]
    refine x_iconst (v := nI 0) dX4_load_35 (by decide) ?_
    refine x_istore_n dX4_load_36 (by decide) ?_
    refine x_ls [(0, .ref x), (1, .int (nI 0))] ⟨rfl, rfl, trivial⟩ ?_
    simp only [wI_wI, gI_wI]
    refine clr _ hA ?_ ?_ up2_s ?_
    · refine TxV_in vT ?_ ?_
      · rw [up2_n (by omega), hf2 (x + 1) (by omega)]
        exact p2 1 (by omega) (by omega)
      · rw [← p3 (x + 1 + 1) (by omega) (by omega)]
        refine (funext fun j => ?_)
        rw [up2_n (by omega), hf2 (x + 1 + 1) (by omega)]
        rfl
    · exact VaD_in Ok_new.1 hf1 fun a h1 h2 => funext fun j => up2_n (by omega)
    · intro a ha
      rw [← p3 a (by omega) (by omega)]
      refine (funext fun j => ?_)
      rw [up2_n (by omega), hf2 a (by omega)]
      rfl
  · have hA : ∃ p, pAll S n (n + 1) 0 = some p := by
      cases e : pAll S n (n + 1) 0 with
      | none => rw [e] at p1; exact absurd p1 c8
      | some p => exact ⟨p, rfl⟩
    refine x_throwS (names := nmsX) hO hX.1 dX4_load_11 dX4_load_14 dX4_load_15 dX4_load_17 dX4_load_20 fit_56 nms_fit q_X4_52 ini_IllegalStateException (hX.2.1 10 _ _ _ rfl) g1_56 dcl g2_56 (dcl_ok hO) (gd_56 _) (Nat.le_of_ble_eq_true rfl) ⟨by decide, by decide⟩ ⟨by decide, by decide⟩ ?_
    obtain ⟨p, hA⟩ := hA
    have eA : aLoad (S, n, ρ, L, K) = (1, 0, (S, n, ρ, L, K)) := by
      unfold aLoad
      show (match pAll S n (n + 1) 0 with | none => _ | some _ => _) = _
      rw [hA]
    rw [eA] at hx1
    have hg : ∀ a, (a < x + 1 ∨ x + 4 ≤ a) → f1 a = gI C a := fun a ha => p3 a (by omega) (by omega)
    refine fun z hz => hx1 rfl _ (RX_wZ (C := wI C f1) ⟨hR.1, π, hs, TxV_in vT (p2 1 (by omega) (by omega)) (p3 _ (by omega) (by omega)), VaD_in hW vN fun a h1 h2 => hg a (by omega), HiV_in hHi vH fun a h1 h2 => hg a (by omega), SlV_in vS (hg _ (by omega)) fun a h1 h2 => hg a (by omega)⟩ hz) (Fr_trans (B := wI C f1) (Fr_wI fun a ha => hg a (by omega)) (Fr_wZ hz))

