/-! what would be charged: a bus *)-/
def pvw (ρ : Rw) : LT := lay (mved ρ)
def busV (ρ : Rw) (j k : Nat) : Int32 := match k with
  | 0 => nI (ρ (bi j 0))
  | 1 => nI (ρ (bi j 1))
  | 2 => nI (ρ (bi j 2))
  | 3 => nI (ρ (bi j 3))
  | 4 => nI (ρ (bi j 4))
  | 5 => nI (ρ (bi j 5))
  | 6 => nI (ρ (bi j 6))
  | 7 => nI ((pvw ρ).2.2.1 j)
  | 8 => enc ((pvw ρ).2.2.2.1 j)
  | _ => nI (hrs ρ j)
def aBus (s : St) (b w : Int32) : An := if isB s.2.2.1 b then (if nI 0 ≤ w ∧ w ≤ nI 9 then (0, busV s.2.2.1 b.toNatClampNeg w.toNatClampNeg, s) else (2, 0, s)) else (1, 0, s)

theorem s_previewOf {G : GT} {C : AH} {Q : QT} {X : XT} {x o T : Nat} {ρ : Rw} (hO : GO G) (hK : gK C x = 6) (g6 : gR C x 6 = some (x + 216)) (hPr : SkD C (x + 216)) (hSo : SkD C o) (hVo : VaD (gI C) o ρ) (hk : Ok T ρ) (hT : T ≤ 49000) (ho : o + 13 ≤ x + 216) (hq : ∀ f : Nat → Nat → Int32, VaD f (x + 216) (mved ρ) → PlD f (x + 216) (mved ρ) (pvw ρ) → (∀ a : Nat, a < x + 216 ∨ x + 229 ≤ a → f a = gI C a) → Q (some (.ref (x + 216))) (wI C f)) : Mt G M_X4_previewOf [.ref x, .ref o] C Q X := by
  refine Mt_of (by decide) (Nat.le_of_ble_eq_true rfl) ?_
  have kPr := hPr.1
  obtain ⟨hW, hB⟩ := hk
  have hBm := Bm_mved hW hB
  obtain ⟨hWm, hm1⟩ := Wf_mved hW
  obtain ⟨b0, b3, b4, b5, b6, b7⟩ := id hB
  refine x_aload_n dX4_previewOf_0 rfl ?_
  refine x_get 6 hO dX4_previewOf_1 f_X4_41 (by first | (simp only [gK_wI]; assumption) | assumption) ⟨by decide, by decide⟩ (v := .ref (x + 216)) (congrArg va_rf g6) ?_
  refine x_aload_n dX4_previewOf_4 rfl ?_
  refine x_callV (As := [_]) 3 hO dX4_previewOf_5 o_X1_becomeLike v_X1_becomeLike l_X4_261 ⟨by decide, by decide⟩ (by first | (simp only [gK_wI]; assumption) | assumption) ⟨by decide, by decide⟩ rfl ⟨by decide, by decide⟩ rfl rfl (Nat.le_of_ble_eq_true rfl) (s_becomeLike hO hPr hSo hVo hW (by omega) (fun f1 p1 p2 => ?_))
  dsimp only [Option.toList, List.cons_append, List.nil_append]
  refine x_aload_n dX4_previewOf_8 rfl ?_
  refine x_get 6 hO dX4_previewOf_9 f_X4_41 (by first | (simp only [gK_wI]; assumption) | assumption) ⟨by decide, by decide⟩ (v := .ref (x + 216)) (congrArg va_rf g6) ?_
  refine x_callV (As := []) 3 hO dX4_previewOf_12 o_X1_moveBuses v_X1_moveBuses l_X4_323 ⟨by decide, by decide⟩ (by first | (simp only [gK_wI]; assumption) | assumption) ⟨by decide, by decide⟩ rfl ⟨by decide, by decide⟩ rfl rfl (Nat.le_of_ble_eq_true rfl) (s_moveBuses (C := wI C f1) hO hPr p1 hW (by omega) (fun b hb => by have := b7 b hb; omega) (fun f2 q1 q2 => ?_))
  dsimp only [Option.toList, List.cons_append, List.nil_append]
  refine x_aload_n dX4_previewOf_15 rfl ?_
  refine x_get 6 hO dX4_previewOf_16 f_X4_41 (by first | (simp only [gK_wI]; assumption) | assumption) ⟨by decide, by decide⟩ (v := .ref (x + 216)) (congrArg va_rf g6) ?_
  refine x_callV (As := []) 3 hO dX4_previewOf_19 o_X1_lineUp v_X1_lineUp l_X4_326 ⟨by decide, by decide⟩ (by first | (simp only [gK_wI]; assumption) | assumption) ⟨by decide, by decide⟩ rfl ⟨by decide, by decide⟩ rfl rfl (Nat.le_of_ble_eq_true rfl) (s_lineUp (C := wI C f2) hO hPr q1 hWm (by have := hBm.1; omega) (fun f3 r1 r2 r3 => ?_))
  dsimp only [Option.toList, List.cons_append, List.nil_append]
  refine x_aload_n dX4_previewOf_22 rfl ?_
  refine x_get 6 hO dX4_previewOf_23 f_X4_41 (by first | (simp only [gK_wI]; assumption) | assumption) ⟨by decide, by decide⟩ (v := .ref (x + 216)) (congrArg va_rf g6) ?_
  refine x_callV (As := []) 3 hO dX4_previewOf_26 o_X1_plugIn v_X1_plugIn l_X4_329 ⟨by decide, by decide⟩ (by first | (simp only [gK_wI]; assumption) | assumption) ⟨by decide, by decide⟩ rfl ⟨by decide, by decide⟩ rfl rfl (Nat.le_of_ble_eq_true rfl) (s_plugIn (C := wI C f3) hO hPr r1 hWm r2 (fun f4 t1 t2 t3 => ?_))
  dsimp only [Option.toList, List.cons_append, List.nil_append]
  refine x_aload_n dX4_previewOf_29 rfl ?_
  refine x_get 6 hO dX4_previewOf_30 f_X4_41 (by first | (simp only [gK_wI]; assumption) | assumption) ⟨by decide, by decide⟩ (v := .ref (x + 216)) (congrArg va_rf g6) ?_
  refine x_aret (r := some _) dX4_previewOf_33 rfl (by first | exact Or.inl ⟨_, rfl⟩ | exact Or.inr ⟨_, rfl⟩) ?_
  exact hq f4 t1 t2 fun a ha => ((t3 a (by omega)).trans (r3 a (by omega))).trans ((q2 a (by omega)).trans (p2 a (by omega)))
theorem pl_lt {ρ : Rw} {k : Nat} (h5 : ρ 2 ≤ 5) (hk : k ≤ ρ 2) : ∀ b c, (layS ρ k).2.2.2.1 b = some c → c < ρ 2 := by
  induction k with
  | zero => intro b c h; exact absurd h (by simp [layS])
  | succ k ih =>
    intro b c h
    simp only [layS] at h
    split at h
    · exact ih (by omega) b c h
    · rename_i b9 hb9
      have h : va_up (layS ρ k).2.2.2.1 b9 (some ((ordL ρ).getD k 0)) b = some c := h
      by_cases e : b = b9
      · subst e
        rw [vu_s] at h
        cases h
        exact ordL_lt (by omega)
      · rw [vu_n e] at h
        exact ih (by omega) b c h

theorem t_bus {G : GT} {C : AH} {Q : QT} {X : XT} {sa va : Nat → Nat} {x T n : Nat} {S : Nat → Nat} {ρ : Rw} {L : List Rw} {K : Nat → Option Rw} {b w : Int32} (hO : GO G) (hX : GX G sa va) (hT : T ≤ 40000) (hR : RX T C x (S, n, ρ, L, K)) (hq : (aBus (S, n, ρ, L, K) b w).1 = 0 → ∀ C' : AH, RX (T) C' x (aBus (S, n, ρ, L, K) b w).2.2 → Fr C C' x 255 → Q (some (.int (aBus (S, n, ρ, L, K) b w).2.1)) C') (hx1 : (aBus (S, n, ρ, L, K) b w).1 = 1 → ∀ C' : AH, RX (T) C' x (aBus (S, n, ρ, L, K) b w).2.2 → Fr C C' x 255 → X "java/lang/IndexOutOfBoundsException" C') (hx2 : (aBus (S, n, ρ, L, K) b w).1 = 2 → ∀ C' : AH, RX (T) C' x (aBus (S, n, ρ, L, K) b w).2.2 → Fr C C' x 255 → X "java/lang/IllegalArgumentException" C') : Mt G M_X4_bus [.ref x, .int b, .int w] C Q X := by
  refine Mt_of (by decide) (Nat.le_of_ble_eq_true rfl) ?_
  obtain ⟨hk, π, hs, hv⟩ := id hR
  obtain ⟨hK, ⟨g0, g1, g2, g3, g4, g5, g6⟩, hTx, hNow, hHi, ⟨ks, ns, es⟩, ⟨kf, nf⟩, hTr, hPr, hSl, hgz⟩ := id hs
  have kTx := hTx.1
  have kNow := hNow.1
  have kHi := hHi.1
  have kTr := hTr.1
  have kPr := hPr.1
  obtain ⟨vT, vN, vH, vS⟩ : TxV (gI C) (x + 1) S n ∧ VaD (gI C) (x + 4) ρ ∧ HiV (gI C) (x + 17) π L ∧ SlV (gI C) x K := hv
  obtain ⟨ok1, ok2, ok3, ok4, ok5, ok6⟩ : Ok T ρ ∧ (∀ σ, σ ∈ L → Ok T σ) ∧ (∀ i σ, K i = some σ → Ok T σ) ∧ n ≤ 120 ∧ (∀ i, i < n → S i < 256) ∧ L.length ≤ 14 := hk
  obtain ⟨hW, hB⟩ := id ok1
  obtain ⟨b0, b3, b4, b5, b6, b7⟩ := id hB
  obtain ⟨w1, w2, w7, w8, w9, w10, w11, w11', w12, wB, wP⟩ := id hW
  obtain ⟨s0, s1, s2, s3, v4, v5, v6, v7, v8, v9, v10⟩ := SkD_f hNow vN
  refine x_aload_n dX4_bus_0 rfl ?_
  refine x_iload_n dX4_bus_1 rfl ?_
  refine x_callV (As := [_]) 6 hO dX4_bus_2 o_X4_requireBus v_X4_requireBus l_X4_116 ⟨by decide, by decide⟩ (by first | (simp only [gK_wI]; assumption) | assumption) ⟨by decide, by decide⟩ rfl ⟨by decide, by decide⟩ rfl rfl (Nat.le_of_ble_eq_true rfl) (t_requireBus hO hX hT hR (fun j hj hb9 => ?_) (fun hnb => ?_))
  · dsimp only [Option.toList, List.cons_append, List.nil_append]
    subst hb9
    have vb : ∀ b, b < ρ 1 → ∀ w, w < 7 → gI C (x + 4 + 5 + b) w = nI (ρ (bi b w)) := vN.2.2.2.2.2.2.2.2.1
    have hbus := hNow.2.2.2.2.2.2.2.2.2.2.2.2.2
    have kb := (hbus j (by omega)).2
    have hib : isB ρ (nI j) := (ix_of (by omega)).mpr ⟨j, hj, rfl⟩
    have eA : aBus (S, n, ρ, L, K) (nI j) w = (if nI 0 ≤ w ∧ w ≤ nI 9 then (0, busV ρ j w.toNatClampNeg, (S, n, ρ, L, K)) else (2, 0, (S, n, ρ, L, K))) := by
      unfold aBus
      rw [if_pos hib, nI_clamp (show j < 2 ^ 31 by omega)]
    rw [eA] at hq hx2
    refine x_astore_n dX4_bus_5 (by decide) ?_
    refine x_iload_n dX4_bus_6 rfl ?_
    refine x_iconst (v := nI 0) dX4_bus_7 (by decide) ?_
    refine x_bipush (v := nI 9) dX4_bus_8 (by decide) ?_
    refine x_callS (As := [_, _, _]) hO dX4_bus_10 o_X4_requireWithin s_X4_requireWithin l_X4_44 ⟨by decide, by decide⟩ ⟨by decide, by decide⟩ rfl rfl (Nat.le_of_ble_eq_true rfl) (s_requireWithin hO hX (fun h5 => ?_) (fun h5 => ?_))
    · dsimp only [Option.toList, List.cons_append, List.nil_append]
      rw [if_pos h5] at hq
      obtain ⟨k, hk0, hk9, rfl⟩ := (rng (by decide) (by decide)).mp h5
      rw [nI_clamp (by omega)] at hq
      refine x_iload_n dX4_bus_13 rfl ?_
      rcases (show k = 0 ∨ k = 1 ∨ k = 2 ∨ k = 3 ∨ k = 4 ∨ k = 5 ∨ k = 6 ∨ k = 7 ∨ k = 8 ∨ k = 9 by omega) with rfl | rfl | rfl | rfl | rfl | rfl | rfl | rfl | rfl | rfl
      · refine x_tableIn (off := 50) (tgt := 64) dX4_bus_14 (by decide +kernel) (by decide +kernel) (by decide +kernel) (by decide) ?_
        refine x_aload_n dX4_bus_64 rfl ?_
        refine x_get 2 hO dX4_bus_65 f_X4_120 (by first | (simp only [gK_wI]; assumption) | assumption) ⟨by decide, by decide⟩ (v := .int (nI (ρ (bi j 0)))) (congrArg Value.int (vb j hj 0 (by decide))) ?_
        refine x_iret dX4_bus_68 rfl rfl ?_
        exact hq rfl C hR Fr_refl
      · refine x_tableIn (off := 55) (tgt := 69) dX4_bus_14 (by decide +kernel) (by decide +kernel) (by decide +kernel) (by decide) ?_
        refine x_aload_n dX4_bus_69 rfl ?_
        refine x_get 2 hO dX4_bus_70 f_X4_125 (by first | (simp only [gK_wI]; assumption) | assumption) ⟨by decide, by decide⟩ (v := .int (nI (ρ (bi j 1)))) (congrArg Value.int (vb j hj 1 (by decide))) ?_
        refine x_iret dX4_bus_73 rfl rfl ?_
        exact hq rfl C hR Fr_refl
      · refine x_tableIn (off := 60) (tgt := 74) dX4_bus_14 (by decide +kernel) (by decide +kernel) (by decide +kernel) (by decide) ?_
        refine x_aload_n dX4_bus_74 rfl ?_
        refine x_get 2 hO dX4_bus_75 f_X4_128 (by first | (simp only [gK_wI]; assumption) | assumption) ⟨by decide, by decide⟩ (v := .int (nI (ρ (bi j 2)))) (congrArg Value.int (vb j hj 2 (by decide))) ?_
        refine x_iret dX4_bus_78 rfl rfl ?_
        exact hq rfl C hR Fr_refl
      · refine x_tableIn (off := 65) (tgt := 79) dX4_bus_14 (by decide +kernel) (by decide +kernel) (by decide +kernel) (by decide) ?_
        refine x_aload_n dX4_bus_79 rfl ?_
        refine x_get 2 hO dX4_bus_80 f_X4_131 (by first | (simp only [gK_wI]; assumption) | assumption) ⟨by decide, by decide⟩ (v := .int (nI (ρ (bi j 3)))) (congrArg Value.int (vb j hj 3 (by decide))) ?_
        refine x_iret dX4_bus_83 rfl rfl ?_
        exact hq rfl C hR Fr_refl
      · refine x_tableIn (off := 70) (tgt := 84) dX4_bus_14 (by decide +kernel) (by decide +kernel) (by decide +kernel) (by decide) ?_
        refine x_aload_n dX4_bus_84 rfl ?_
        refine x_get 2 hO dX4_bus_85 f_X4_134 (by first | (simp only [gK_wI]; assumption) | assumption) ⟨by decide, by decide⟩ (v := .int (nI (ρ (bi j 4)))) (congrArg Value.int (vb j hj 4 (by decide))) ?_
        refine x_iret dX4_bus_88 rfl rfl ?_
        exact hq rfl C hR Fr_refl
      · refine x_tableIn (off := 75) (tgt := 89) dX4_bus_14 (by decide +kernel) (by decide +kernel) (by decide +kernel) (by decide) ?_
        refine x_aload_n dX4_bus_89 rfl ?_
        refine x_get 2 hO dX4_bus_90 f_X4_137 (by first | (simp only [gK_wI]; assumption) | assumption) ⟨by decide, by decide⟩ (v := .int (nI (ρ (bi j 5)))) (congrArg Value.int (vb j hj 5 (by decide))) ?_
        refine x_iret dX4_bus_93 rfl rfl ?_
        exact hq rfl C hR Fr_refl
      · refine x_tableIn (off := 80) (tgt := 94) dX4_bus_14 (by decide +kernel) (by decide +kernel) (by decide +kernel) (by decide) ?_
        refine x_aload_n dX4_bus_94 rfl ?_
        refine x_get 2 hO dX4_bus_95 f_X4_140 (by first | (simp only [gK_wI]; assumption) | assumption) ⟨by decide, by decide⟩ (v := .int (nI (ρ (bi j 6)))) (congrArg Value.int (vb j hj 6 (by decide))) ?_
        refine x_if_eq (tgt := 105) dX4_bus_98 (by decide) (fun c98 => ?_) (fun c98 => ?_)
        · refine x_iconst (v := nI 0) dX4_bus_105 (by decide) ?_
          refine x_iret dX4_bus_106 rfl rfl ?_
          have hq : Q (some (.int (nI (ρ (bi j 6))))) C := hq rfl C hR Fr_refl
          have q1 := (wB j hj).2.2.2.2.2.2.2.2
          simp (disch := omega) only [nI_z] at c98
          first | (rw [show ρ (bi j 6) = 1 by omega] at hq; exact hq) | (rw [show ρ (bi j 6) = 0 by omega] at hq; exact hq)
        · refine x_iconst (v := nI 1) dX4_bus_101 (by decide) ?_
          refine x_goto (tgt := 106) dX4_bus_102 (by decide) ?_
          refine x_iret dX4_bus_106 rfl rfl ?_
          have hq : Q (some (.int (nI (ρ (bi j 6))))) C := hq rfl C hR Fr_refl
          have q1 := (wB j hj).2.2.2.2.2.2.2.2
          simp (disch := omega) only [nI_z] at c98
          first | (rw [show ρ (bi j 6) = 1 by omega] at hq; exact hq) | (rw [show ρ (bi j 6) = 0 by omega] at hq; exact hq)
      · refine x_tableIn (off := 93) (tgt := 107) dX4_bus_14 (by decide +kernel) (by decide +kernel) (by decide +kernel) (by decide) ?_
        refine x_aload_n dX4_bus_107 rfl ?_
        refine x_aload_n dX4_bus_108 rfl ?_
        refine x_get 6 hO dX4_bus_109 f_X4_19 (by first | (simp only [gK_wI]; assumption) | assumption) ⟨by decide, by decide⟩ (v := .ref (x + 4)) (congrArg va_rf g1) ?_
        refine x_callV (As := [_]) 6 hO dX4_bus_112 o_X4_previewOf v_X4_previewOf l_X4_144 ⟨by decide, by decide⟩ (by first | (simp only [gK_wI]; assumption) | assumption) ⟨by decide, by decide⟩ rfl ⟨by decide, by decide⟩ rfl rfl (Nat.le_of_ble_eq_true rfl) (s_previewOf hO hK g6 hPr hNow vN ok1 (by omega) (by omega) (fun f hf1 hf2 hf3 => ?_))
        dsimp only [Option.toList, List.cons_append, List.nil_append]
        have hm1 := (Wf_mved hW).2
        have hRf := RX_tr hR (f := f) fun a ha => hf3 a (by omega)
        have hFf : Fr C (wI C f) x 255 := Fr_wI fun a ha => hf3 a (by omega)
        have hWm := (Wf_mved hW).1
        refine x_iload_n dX4_bus_115 rfl ?_
        refine x_callV (As := [_]) 3 hO dX4_bus_116 o_X1_unitsOf v_X1_unitsOf l_X4_148 ⟨by decide, by decide⟩ (by first | (simp only [gK_wI]; assumption) | assumption) ⟨by decide, by decide⟩ rfl ⟨by decide, by decide⟩ rfl rfl (Nat.le_of_ble_eq_true rfl) (s_unitsOf (C := wI C f) hO hPr hf1 hWm hf2 (by rw [hm1]; exact hj) ?_)
        dsimp only [Option.toList, List.cons_append, List.nil_append]
        refine x_iret dX4_bus_119 rfl rfl ?_
        exact hq rfl _ hRf hFf
      · refine x_tableIn (off := 106) (tgt := 120) dX4_bus_14 (by decide +kernel) (by decide +kernel) (by decide +kernel) (by decide) ?_
        refine x_aload_n dX4_bus_120 rfl ?_
        refine x_aload_n dX4_bus_121 rfl ?_
        refine x_get 6 hO dX4_bus_122 f_X4_19 (by first | (simp only [gK_wI]; assumption) | assumption) ⟨by decide, by decide⟩ (v := .ref (x + 4)) (congrArg va_rf g1) ?_
        refine x_callV (As := [_]) 6 hO dX4_bus_125 o_X4_previewOf v_X4_previewOf l_X4_144 ⟨by decide, by decide⟩ (by first | (simp only [gK_wI]; assumption) | assumption) ⟨by decide, by decide⟩ rfl ⟨by decide, by decide⟩ rfl rfl (Nat.le_of_ble_eq_true rfl) (s_previewOf hO hK g6 hPr hNow vN ok1 (by omega) (by omega) (fun f hf1 hf2 hf3 => ?_))
        dsimp only [Option.toList, List.cons_append, List.nil_append]
        have hm1 := (Wf_mved hW).2
        have hRf := RX_tr hR (f := f) fun a ha => hf3 a (by omega)
        have hFf : Fr C (wI C f) x 255 := Fr_wI fun a ha => hf3 a (by omega)
        have hWm := (Wf_mved hW).1
        refine x_iload_n dX4_bus_128 rfl ?_
        refine x_callV (As := [_]) 3 hO dX4_bus_129 o_X1_chargerOf v_X1_chargerOf l_X4_152 ⟨by decide, by decide⟩ (by first | (simp only [gK_wI]; assumption) | assumption) ⟨by decide, by decide⟩ rfl ⟨by decide, by decide⟩ rfl rfl (Nat.le_of_ble_eq_true rfl) (s_chargerOf (C := wI C f) hO hPr hf1 hWm hf2 (fun i hi he => ?_) (fun hn => absurd rfl (hn j (by rw [hm1]; exact hj))))
        · dsimp only [Option.toList, List.cons_append, List.nil_append]
          have e9 : i = j := (nI_eq (by omega) (by omega)).mp he.symm
          subst e9
          refine x_iret dX4_bus_132 rfl rfl ?_
          exact hq rfl _ hRf hFf
      · refine x_tableOut (tgt := 133) dX4_bus_14 (by decide +kernel) (by decide) ?_
        refine x_aload_n dX4_bus_133 rfl ?_
        refine x_get 6 hO dX4_bus_134 f_X4_19 (by first | (simp only [gK_wI]; assumption) | assumption) ⟨by decide, by decide⟩ (v := .ref (x + 4)) (congrArg va_rf g1) ?_
        refine x_aload_n dX4_bus_137 rfl ?_
        refine x_callV (As := [_]) 3 hO dX4_bus_138 o_X1_hoursUntilLeaving v_X1_hoursUntilLeaving l_X4_155 ⟨by decide, by decide⟩ (by first | (simp only [gK_wI]; assumption) | assumption) ⟨by decide, by decide⟩ rfl ⟨by decide, by decide⟩ rfl rfl (Nat.le_of_ble_eq_true rfl) (s_hoursUntil hO hNow vN hW (by omega) hj ?_)
        dsimp only [Option.toList, List.cons_append, List.nil_append]
        refine x_iret dX4_bus_141 rfl rfl ?_
        exact hq rfl C hR Fr_refl
    · rw [if_neg h5] at hx2
      exact fun z hz => hx2 rfl _ (RX_wZ hR hz) (Fr_wZ hz)
  · have eA : aBus (S, n, ρ, L, K) b w = (1, 0, (S, n, ρ, L, K)) := if_neg hnb
    rw [eA] at hx1
    exact fun z hz => hx1 rfl _ (RX_wZ hR hz) (Fr_wZ hz)

