/-! calls that change what is now *)-/
abbrev isB (ρ : Rw) (b : Int32) : Prop := nI 0 ≤ b ∧ b ≤ nI (ρ 1) - nI 1
def aUndo (s : St) : An := match s.2.2.2.1.getLast? with
  | none => (1, 0, s)
  | some σ => (0, nI (s.2.2.2.1.length - 1), (s.1, s.2.1, σ, s.2.2.2.1.dropLast, s.2.2.2.2))
def aSave (s : St) (v : Int32) : An := if nI 0 ≤ v ∧ v ≤ nI 1 then (0, nI (s.2.2.1 0), (s.1, s.2.1, s.2.2.1, s.2.2.2.1, fun i => if i = v.toNatClampNeg then some s.2.2.1 else s.2.2.2.2 i)) else (1, 0, s)
def aRestore (s : St) (v : Int32) : An := if nI 0 ≤ v ∧ v ≤ nI 1 then (match s.2.2.2.2 v.toNatClampNeg with
  | none => (2, 0, s)
  | some σ => (0, nI (σ 0), (s.1, s.2.1, σ, [], s.2.2.2.2))) else (1, 0, s)
def aRun (s : St) (m : Int32) : An := if nI 1 ≤ m ∧ m ≤ nI 48 then (0, nI (runN m.toNatClampNeg s.2.2.1 4) - nI (s.2.2.1 4), (s.1, s.2.1, runN m.toNatClampNeg s.2.2.1, rem14 s.2.2.2.1 s.2.2.1, s.2.2.2.2)) else (1, 0, s)
def aSet (s : St) (w v : Int32) : An := if okS w v then (0, nI (s.2.2.1 (7 + w.toNatClampNeg)), (s.1, s.2.1, stS s.2.2.1 w.toNatClampNeg v.toNatClampNeg, rem14 s.2.2.2.1 s.2.2.1, s.2.2.2.2)) else (1, 0, s)
def aAddBus (s : St) (a b c d e : Int32) : An := if okB a b c d e then (if s.2.2.1 1 = 8 then (2, 0, s) else (0, nI (s.2.2.1 1), (s.1, s.2.1, addB s.2.2.1 a.toNatClampNeg b.toNatClampNeg c.toNatClampNeg d.toNatClampNeg e.toNatClampNeg, rem14 s.2.2.2.1 s.2.2.1, s.2.2.2.2))) else (1, 0, s)
def aAddC (s : St) (p : Int32) : An := if nI 1 ≤ p ∧ p ≤ nI 50 then (if s.2.2.1 2 = 5 then (2, 0, s) else (0, nI (s.2.2.1 2), (s.1, s.2.1, addC s.2.2.1 p.toNatClampNeg, rem14 s.2.2.2.1 s.2.2.1, s.2.2.2.2))) else (1, 0, s)
def aRoute (s : St) (b a l k : Int32) : An := if isB s.2.2.1 b then (if okR a l k then (if s.2.2.1 (bi b.toNatClampNeg 6) = 1 then (3, 0, s) else (0, nI (s.2.2.1 (bi b.toNatClampNeg 2)), (s.1, s.2.1, rtB s.2.2.1 b.toNatClampNeg a.toNatClampNeg l.toNatClampNeg k.toNatClampNeg, rem14 s.2.2.2.1 s.2.2.1, s.2.2.2.2))) else (2, 0, s)) else (1, 0, s)
def aBattery (s : St) (b a : Int32) : An := if isB s.2.2.1 b then (if nI 10 ≤ a ∧ a ≤ nI 400 then (if s.2.2.1 (bi b.toNatClampNeg 6) = 1 then (3, 0, s) else (0, nI (s.2.2.1 (bi b.toNatClampNeg 0)), (s.1, s.2.1, btB s.2.2.1 b.toNatClampNeg a.toNatClampNeg, rem14 s.2.2.2.1 s.2.2.1, s.2.2.2.2))) else (2, 0, s)) else (1, 0, s)
def aLoad (s : St) : An := match pAll s.1 s.2.1 (s.2.1 + 1) 0 with
  | none => (0, nI (dAll s.1 s.2.1 (s.2.1 + 1) 0 (new0, 0)).2, (s.1, s.2.1, (dAll s.1 s.2.1 (s.2.1 + 1) 0 (new0, 0)).1, [], fun _ => none))
  | some _ => (1, 0, s)

theorem t_run {G : GT} {C : AH} {Q : QT} {X : XT} {sa va : Nat → Nat} {x T n : Nat} {S : Nat → Nat} {ρ : Rw} {L : List Rw} {K : Nat → Option Rw} {w : Int32} (hO : GO G) (hX : GX G sa va) (hT : T ≤ 40000) (hR : RX T C x (S, n, ρ, L, K)) (hq : (aRun (S, n, ρ, L, K) w).1 = 0 → ∀ C' : AH, RX (T + 48) C' x (aRun (S, n, ρ, L, K) w).2.2 → Fr C C' x 255 → Q (some (.int (aRun (S, n, ρ, L, K) w).2.1)) C') (hx1 : (aRun (S, n, ρ, L, K) w).1 = 1 → ∀ C' : AH, RX (T) C' x (aRun (S, n, ρ, L, K) w).2.2 → Fr C C' x 255 → X "java/lang/IllegalArgumentException" C') : Mt G M_X4_run [.ref x, .int w] C Q X := by
  refine Mt_of (by decide) (Nat.le_of_ble_eq_true rfl) ?_
  obtain ⟨hk, π, hs, hv⟩ := id hR
  obtain ⟨hK, ⟨g0, g1, g2, g3, g4, g5, g6⟩, hTx, hNow, hHi, ⟨ks, ns, es⟩, ⟨kf, nf⟩, hTr, hPr, hSl, hgz⟩ := id hs
  have kTx := hTx.1
  have kNow := hNow.1
  have kHi := hHi.1
  have kTr := hTr.1
  have kPr := hPr.1
  obtain ⟨vT, vN, vH, vS⟩ : TxV (gI C) (x + 1) S n ∧ VaD (gI C) (x + 4) ρ ∧ HiV (gI C) (x + 17) π L ∧ SlV (gI C) x K := hv
  obtain ⟨ok1, ok2, ok3, ok4, ok5, ok6⟩ : Ok T ρ ∧ (∀ σ, σ ∈ L → Ok T σ) ∧ (∀ i σ, K i = some σ → Ok T σ) ∧ n ≤ 120 ∧ (∀ i, i < n → S i < 256) ∧ L.length ≤ 14 := hk
  obtain ⟨hW, hB⟩ := id ok1
  obtain ⟨b0, b3, b4, b5, b6, b7⟩ := id hB
  obtain ⟨w1, w2, w7, w8, w9, w10, w11, w11', w12, wB, wP⟩ := id hW
  obtain ⟨s0, s1, s2, s3, v4, v5, v6, v7, v8, v9, v10⟩ := SkD_f hNow vN
  refine x_iload_n dX4_run_0 rfl ?_
  refine x_iconst (v := nI 1) dX4_run_1 (by decide) ?_
  refine x_bipush (v := nI 48) dX4_run_2 (by decide) ?_
  refine x_callS (As := [_, _, _]) hO dX4_run_4 o_X4_requireWithin s_X4_requireWithin l_X4_44 ⟨by decide, by decide⟩ ⟨by decide, by decide⟩ rfl rfl (Nat.le_of_ble_eq_true rfl) (s_requireWithin hO hX (fun h5 => ?_) (fun h5 => ?_))
  · dsimp only [Option.toList, List.cons_append, List.nil_append]
    obtain ⟨k, hk0, hk9, rfl⟩ := (rng (by decide) (by decide)).mp h5
    have eA : aRun (S, n, ρ, L, K) (nI k) = (0, nI (runN k ρ 4) - nI (ρ 4), (S, n, runN k ρ, rem14 L ρ, K)) := by
      unfold aRun
      rw [if_pos h5, nI_clamp (by omega)]
    rw [eA] at hq
    refine x_aload_n dX4_run_7 rfl ?_
    refine x_get 6 hO dX4_run_8 f_X4_26 (by first | (simp only [gK_wI]; assumption) | assumption) ⟨by decide, by decide⟩ (v := .ref (x + 17)) (congrArg va_rf g2) ?_
    refine x_aload_n dX4_run_11 rfl ?_
    refine x_get 6 hO dX4_run_12 f_X4_19 (by first | (simp only [gK_wI]; assumption) | assumption) ⟨by decide, by decide⟩ (v := .ref (x + 4)) (congrArg va_rf g1) ?_
    refine x_callV (As := [_]) 4 hO dX4_run_15 o_X2_remember v_X2_remember l_X4_209 ⟨by decide, by decide⟩ (by first | (simp only [gK_wI]; assumption) | assumption) ⟨by decide, by decide⟩ rfl ⟨by decide, by decide⟩ rfl rfl (Nat.le_of_ble_eq_true rfl) (t_remember hO hX hT hR (fun C1 hR1 hF1 => ?_))
    dsimp only [Option.toList, List.cons_append, List.nil_append]
    have hF := hF1
    have hR := hR1
    obtain ⟨hk, π, hs, hv⟩ := id hR
    obtain ⟨hK, ⟨g0, g1, g2, g3, g4, g5, g6⟩, hTx, hNow, hHi, ⟨ks, ns, es⟩, ⟨kf, nf⟩, hTr, hPr, hSl, hgz⟩ := id hs
    have kTx := hTx.1
    have kNow := hNow.1
    have kHi := hHi.1
    have kTr := hTr.1
    have kPr := hPr.1
    obtain ⟨vT, vN, vH, vS⟩ : TxV (gI C1) (x + 1) S n ∧ VaD (gI C1) (x + 4) ρ ∧ HiV (gI C1) (x + 17) π (rem14 L ρ) ∧ SlV (gI C1) x K := hv
    obtain ⟨ok1, ok2, ok3, ok4, ok5, ok6⟩ : Ok T ρ ∧ (∀ σ, σ ∈ rem14 L ρ → Ok T σ) ∧ (∀ i σ, K i = some σ → Ok T σ) ∧ n ≤ 120 ∧ (∀ i, i < n → S i < 256) ∧ (rem14 L ρ).length ≤ 14 := hk
    obtain ⟨hW, hB⟩ := id ok1
    obtain ⟨b0, b3, b4, b5, b6, b7⟩ := id hB
    obtain ⟨w1, w2, w7, w8, w9, w10, w11, w11', w12, wB, wP⟩ := id hW
    obtain ⟨s0, s1, s2, s3, v4, v5, v6, v7, v8, v9, v10⟩ := SkD_f hNow vN
    refine x_aload_n dX4_run_18 rfl ?_
    refine x_get 6 hO dX4_run_19 f_X4_19 (by first | (simp only [gK_wI]; assumption) | assumption) ⟨by decide, by decide⟩ (v := .ref (x + 4)) (congrArg va_rf g1) ?_
    refine x_get 3 hO dX4_run_22 f_X4_95 (by first | (simp only [gK_wI]; assumption) | assumption) ⟨by decide, by decide⟩ (v := .int (nI (ρ 4))) v8 ?_
    refine x_istore_n dX4_run_25 (by decide) ?_
    refine x_aload_n dX4_run_26 rfl ?_
    refine x_get 6 hO dX4_run_27 f_X4_19 (by first | (simp only [gK_wI]; assumption) | assumption) ⟨by decide, by decide⟩ (v := .ref (x + 4)) (congrArg va_rf g1) ?_
    refine x_iload_n dX4_run_30 rfl ?_
    refine x_callV (As := [_]) 3 hO dX4_run_31 o_X1_passHours v_X1_passHours l_X4_240 ⟨by decide, by decide⟩ (by first | (simp only [gK_wI]; assumption) | assumption) ⟨by decide, by decide⟩ rfl ⟨by decide, by decide⟩ rfl rfl (Nat.le_of_ble_eq_true rfl) (s_passHours (C := C1) hO hNow vN hW hB (by omega) (fun f hf1 hf2 => ?_))
    dsimp only [Option.toList, List.cons_append, List.nil_append]
    refine x_aload_n dX4_run_34 rfl ?_
    refine x_get 6 hO dX4_run_35 f_X4_19 (by first | (simp only [gK_wI]; assumption) | assumption) ⟨by decide, by decide⟩ (v := .ref (x + 4)) (congrArg va_rf g1) ?_
    refine x_get 3 hO dX4_run_38 f_X4_95 (by first | (simp only [gK_wI]; assumption) | assumption) ⟨by decide, by decide⟩ (v := .int (nI (runN k ρ 4))) (congrArg Value.int hf1.2.2.2.2.1) ?_
    refine x_iload_n dX4_run_41 rfl ?_
    refine x_isub dX4_run_42 ?_
    refine x_iret dX4_run_43 rfl rfl ?_
    exact hq rfl _ (RX_now hR (fun a ha => hf2 a (by omega)) hf1 (by omega) (Ok_mono (Ok_run ok1) (by omega))) (Fr_trans hF (Fr_wI fun a ha => hf2 a (by omega)))
  · have eA : aRun (S, n, ρ, L, K) w = (1, 0, (S, n, ρ, L, K)) := if_neg h5
    rw [eA] at hx1
    exact fun z hz => hx1 rfl _ (RX_wZ hR hz) (Fr_wZ hz)
theorem t_sett {G : GT} {C : AH} {Q : QT} {X : XT} {sa va : Nat → Nat} {x T n : Nat} {S : Nat → Nat} {ρ : Rw} {L : List Rw} {K : Nat → Option Rw} {w v : Int32} (hO : GO G) (hX : GX G sa va) (hT : T ≤ 40000) (hR : RX T C x (S, n, ρ, L, K)) (hq : (aSet (S, n, ρ, L, K) w v).1 = 0 → ∀ C' : AH, RX (T) C' x (aSet (S, n, ρ, L, K) w v).2.2 → Fr C C' x 255 → Q (some (.int (aSet (S, n, ρ, L, K) w v).2.1)) C') (hx1 : (aSet (S, n, ρ, L, K) w v).1 = 1 → ∀ C' : AH, RX (T) C' x (aSet (S, n, ρ, L, K) w v).2.2 → Fr C C' x 255 → X "java/lang/IllegalArgumentException" C') : Mt G M_X4_set [.ref x, .int w, .int v] C Q X := by
  refine Mt_of (by decide) (Nat.le_of_ble_eq_true rfl) ?_
  obtain ⟨hk, π, hs, hv⟩ := id hR
  obtain ⟨hK, ⟨g0, g1, g2, g3, g4, g5, g6⟩, hTx, hNow, hHi, ⟨ks, ns, es⟩, ⟨kf, nf⟩, hTr, hPr, hSl, hgz⟩ := id hs
  have kTx := hTx.1
  have kNow := hNow.1
  have kHi := hHi.1
  have kTr := hTr.1
  have kPr := hPr.1
  obtain ⟨vT, vN, vH, vS⟩ : TxV (gI C) (x + 1) S n ∧ VaD (gI C) (x + 4) ρ ∧ HiV (gI C) (x + 17) π L ∧ SlV (gI C) x K := hv
  obtain ⟨ok1, ok2, ok3, ok4, ok5, ok6⟩ : Ok T ρ ∧ (∀ σ, σ ∈ L → Ok T σ) ∧ (∀ i σ, K i = some σ → Ok T σ) ∧ n ≤ 120 ∧ (∀ i, i < n → S i < 256) ∧ L.length ≤ 14 := hk
  obtain ⟨hW, hB⟩ := id ok1
  obtain ⟨b0, b3, b4, b5, b6, b7⟩ := id hB
  obtain ⟨w1, w2, w7, w8, w9, w10, w11, w11', w12, wB, wP⟩ := id hW
  obtain ⟨s0, s1, s2, s3, v4, v5, v6, v7, v8, v9, v10⟩ := SkD_f hNow vN
  refine x_iload_n dX4_set_0 rfl ?_
  refine x_iload_n dX4_set_1 rfl ?_
  refine x_callS (As := [_, _]) hO dX4_set_2 o_X4_isSetting s_X4_isSetting l_X4_243 ⟨by decide, by decide⟩ ⟨by decide, by decide⟩ rfl rfl (Nat.le_of_ble_eq_true rfl) (s_isSetting hO hX (fun r2 hr2 => ?_))
  dsimp only [Option.toList, List.cons_append, List.nil_append]
  refine x_if_ne (tgt := 18) dX4_set_5 (by decide) (fun c5 => ?_) (fun c5 => ?_)
  · have p2 := (ite01 hr2).2 c5
    obtain ⟨k, v, rfl, rfl, hkx⟩ := okS_N.mp p2
    have hv9 : v ≤ 999 := Nat.le_trans hkx.2.2 (by unfold hiS; split <;> (try split) <;> (try split) <;> omega)
    have hk6 := hkx.1
    have eA : aSet (S, n, ρ, L, K) (nI k) (nI v) = (0, nI (ρ (7 + k)), (S, n, stS ρ k v, rem14 L ρ, K)) := by
      unfold aSet
      rw [if_pos p2, nI_clamp (by omega), nI_clamp (by omega)]
    rw [eA] at hq
    refine x_aload_n dX4_set_18 rfl ?_
    refine x_get 6 hO dX4_set_19 f_X4_26 (by first | (simp only [gK_wI]; assumption) | assumption) ⟨by decide, by decide⟩ (v := .ref (x + 17)) (congrArg va_rf g2) ?_
    refine x_aload_n dX4_set_22 rfl ?_
    refine x_get 6 hO dX4_set_23 f_X4_19 (by first | (simp only [gK_wI]; assumption) | assumption) ⟨by decide, by decide⟩ (v := .ref (x + 4)) (congrArg va_rf g1) ?_
    refine x_callV (As := [_]) 4 hO dX4_set_26 o_X2_remember v_X2_remember l_X4_209 ⟨by decide, by decide⟩ (by first | (simp only [gK_wI]; assumption) | assumption) ⟨by decide, by decide⟩ rfl ⟨by decide, by decide⟩ rfl rfl (Nat.le_of_ble_eq_true rfl) (t_remember hO hX hT hR (fun C1 hR1 hF1 => ?_))
    dsimp only [Option.toList, List.cons_append, List.nil_append]
    have hF := hF1
    have hR := hR1
    obtain ⟨hk, π, hs, hv⟩ := id hR
    obtain ⟨hK, ⟨g0, g1, g2, g3, g4, g5, g6⟩, hTx, hNow, hHi, ⟨ks, ns, es⟩, ⟨kf, nf⟩, hTr, hPr, hSl, hgz⟩ := id hs
    have kTx := hTx.1
    have kNow := hNow.1
    have kHi := hHi.1
    have kTr := hTr.1
    have kPr := hPr.1
    obtain ⟨vT, vN, vH, vS⟩ : TxV (gI C1) (x + 1) S n ∧ VaD (gI C1) (x + 4) ρ ∧ HiV (gI C1) (x + 17) π (rem14 L ρ) ∧ SlV (gI C1) x K := hv
    obtain ⟨ok1, ok2, ok3, ok4, ok5, ok6⟩ : Ok T ρ ∧ (∀ σ, σ ∈ rem14 L ρ → Ok T σ) ∧ (∀ i σ, K i = some σ → Ok T σ) ∧ n ≤ 120 ∧ (∀ i, i < n → S i < 256) ∧ (rem14 L ρ).length ≤ 14 := hk
    obtain ⟨hW, hB⟩ := id ok1
    obtain ⟨b0, b3, b4, b5, b6, b7⟩ := id hB
    obtain ⟨w1, w2, w7, w8, w9, w10, w11, w11', w12, wB, wP⟩ := id hW
    obtain ⟨s0, s1, s2, s3, v4, v5, v6, v7, v8, v9, v10⟩ := SkD_f hNow vN
    refine x_aload_n dX4_set_29 rfl ?_
    refine x_get 6 hO dX4_set_30 f_X4_19 (by first | (simp only [gK_wI]; assumption) | assumption) ⟨by decide, by decide⟩ (v := .ref (x + 4)) (congrArg va_rf g1) ?_
    refine x_iload_n dX4_set_33 rfl ?_
    refine x_callV (As := [_]) 3 hO dX4_set_34 o_X1_settingOf v_X1_settingOf l_X4_195 ⟨by decide, by decide⟩ (by first | (simp only [gK_wI]; assumption) | assumption) ⟨by decide, by decide⟩ rfl ⟨by decide, by decide⟩ rfl rfl (Nat.le_of_ble_eq_true rfl) (s_settingOf (C := C1) hO hNow vN hW (show k < 6 from hkx.1) ?_)
    dsimp only [Option.toList, List.cons_append, List.nil_append]
    refine x_istore_n dX4_set_37 (by decide) ?_
    refine x_aload_n dX4_set_38 rfl ?_
    refine x_get 6 hO dX4_set_39 f_X4_19 (by first | (simp only [gK_wI]; assumption) | assumption) ⟨by decide, by decide⟩ (v := .ref (x + 4)) (congrArg va_rf g1) ?_
    refine x_iload_n dX4_set_42 rfl ?_
    refine x_iload_n dX4_set_43 rfl ?_
    refine x_callV (As := [_, _]) 3 hO dX4_set_44 o_X1_change v_X1_change l_X4_249 ⟨by decide, by decide⟩ (by first | (simp only [gK_wI]; assumption) | assumption) ⟨by decide, by decide⟩ rfl ⟨by decide, by decide⟩ rfl rfl (Nat.le_of_ble_eq_true rfl) (s_change (C := C1) hO hX hNow vN hW hkx (fun f hf1 hf2 => ?_))
    dsimp only [Option.toList, List.cons_append, List.nil_append]
    refine x_iload_n dX4_set_47 rfl ?_
    refine x_iret dX4_set_48 rfl rfl ?_
    exact hq rfl _ (RX_now hR (fun a ha => hf2 a (by omega)) hf1 (Nat.le_refl _) (Ok_stS ok1 hkx)) (Fr_trans hF (Fr_wI fun a ha => hf2 a (by omega)))
  · have p2 := (ite01 hr2).1 c5
    refine x_throwS (names := nmsX) hO hX.1 dX4_set_8 dX4_set_11 dX4_set_12 dX4_set_14 dX4_set_17 fit_181 nms_fit q_X4_177 ini_IllegalArgumentException (hX.2.1 19 _ _ _ rfl) g1_181 dcl g2_181 (dcl_ok hO) (gd_181 _) (Nat.le_of_ble_eq_true rfl) ⟨by decide, by decide⟩ ⟨by decide, by decide⟩ ?_
    have eA : aSet (S, n, ρ, L, K) w v = (1, 0, (S, n, ρ, L, K)) := if_neg p2
    rw [eA] at hx1
    exact fun z hz => hx1 rfl _ (RX_wZ hR hz) (Fr_wZ hz)
theorem t_addBus {G : GT} {C : AH} {Q : QT} {X : XT} {sa va : Nat → Nat} {x T n : Nat} {S : Nat → Nat} {ρ : Rw} {L : List Rw} {K : Nat → Option Rw} {a b c d e : Int32} (hO : GO G) (hX : GX G sa va) (hT : T ≤ 40000) (hR : RX T C x (S, n, ρ, L, K)) (hq : (aAddBus (S, n, ρ, L, K) a b c d e).1 = 0 → ∀ C' : AH, RX (T) C' x (aAddBus (S, n, ρ, L, K) a b c d e).2.2 → Fr C C' x 255 → Q (some (.int (aAddBus (S, n, ρ, L, K) a b c d e).2.1)) C') (hx1 : (aAddBus (S, n, ρ, L, K) a b c d e).1 = 1 → ∀ C' : AH, RX (T) C' x (aAddBus (S, n, ρ, L, K) a b c d e).2.2 → Fr C C' x 255 → X "java/lang/IllegalArgumentException" C') (hx2 : (aAddBus (S, n, ρ, L, K) a b c d e).1 = 2 → ∀ C' : AH, RX (T) C' x (aAddBus (S, n, ρ, L, K) a b c d e).2.2 → Fr C C' x 255 → X "java/lang/IllegalStateException" C') : Mt G M_X4_addBus [.ref x, .int a, .int b, .int c, .int d, .int e] C Q X := by
  refine Mt_of (by decide) (Nat.le_of_ble_eq_true rfl) ?_
  obtain ⟨hk, π, hs, hv⟩ := id hR
  obtain ⟨hK, ⟨g0, g1, g2, g3, g4, g5, g6⟩, hTx, hNow, hHi, ⟨ks, ns, es⟩, ⟨kf, nf⟩, hTr, hPr, hSl, hgz⟩ := id hs
  have kTx := hTx.1
  have kNow := hNow.1
  have kHi := hHi.1
  have kTr := hTr.1
  have kPr := hPr.1
  obtain ⟨vT, vN, vH, vS⟩ : TxV (gI C) (x + 1) S n ∧ VaD (gI C) (x + 4) ρ ∧ HiV (gI C) (x + 17) π L ∧ SlV (gI C) x K := hv
  obtain ⟨ok1, ok2, ok3, ok4, ok5, ok6⟩ : Ok T ρ ∧ (∀ σ, σ ∈ L → Ok T σ) ∧ (∀ i σ, K i = some σ → Ok T σ) ∧ n ≤ 120 ∧ (∀ i, i < n → S i < 256) ∧ L.length ≤ 14 := hk
  obtain ⟨hW, hB⟩ := id ok1
  obtain ⟨b0, b3, b4, b5, b6, b7⟩ := id hB
  obtain ⟨w1, w2, w7, w8, w9, w10, w11, w11', w12, wB, wP⟩ := id hW
  obtain ⟨s0, s1, s2, s3, v4, v5, v6, v7, v8, v9, v10⟩ := SkD_f hNow vN
  refine x_iload_n dX4_addBus_0 rfl ?_
  refine x_iload_n dX4_addBus_1 rfl ?_
  refine x_iload_n dX4_addBus_2 rfl ?_
  refine x_iload dX4_addBus_3 rfl ?_
  refine x_iload dX4_addBus_5 rfl ?_
  refine x_callS (As := [_, _, _, _, _]) hO dX4_addBus_7 o_X4_isBus s_X4_isBus l_X4_198 ⟨by decide, by decide⟩ ⟨by decide, by decide⟩ rfl rfl (Nat.le_of_ble_eq_true rfl) (s_isBus hO (fun r7 hr7 => ?_))
  dsimp only [Option.toList, List.cons_append, List.nil_append]
  refine x_if_ne (tgt := 23) dX4_addBus_10 (by decide) (fun c10 => ?_) (fun c10 => ?_)
  · have p7 := (ite01 hr7).2 c10
    obtain ⟨q1, q2, q3, q4, q5, rfl, rfl, rfl, rfl, rfl, hok⟩ := okB_N.mp p7
    obtain ⟨o1, o2, o3, o4, o5, o6, o7, o8⟩ := id hok
    have eA : aAddBus (S, n, ρ, L, K) (nI q1) (nI q2) (nI q3) (nI q4) (nI q5) = if ρ 1 = 8 then (2, 0, (S, n, ρ, L, K)) else (0, nI (ρ 1), (S, n, addB ρ q1 q2 q3 q4 q5, rem14 L ρ, K)) := by
      unfold aAddBus
      rw [if_pos p7, nI_clamp (by omega), nI_clamp (by omega), nI_clamp (by omega), nI_clamp (by omega), nI_clamp (by omega)]
    rw [eA] at hq hx2
    refine x_aload_n dX4_addBus_23 rfl ?_
    refine x_get 6 hO dX4_addBus_24 f_X4_19 (by first | (simp only [gK_wI]; assumption) | assumption) ⟨by decide, by decide⟩ (v := .ref (x + 4)) (congrArg va_rf g1) ?_
    refine x_callV (As := []) 3 hO dX4_addBus_27 o_X1_isFullOfBuses v_X1_isFullOfBuses l_X4_204 ⟨by decide, by decide⟩ (by first | (simp only [gK_wI]; assumption) | assumption) ⟨by decide, by decide⟩ rfl ⟨by decide, by decide⟩ rfl rfl (Nat.le_of_ble_eq_true rfl) (s_isFullOfBuses hO hNow vN hW (fun r27 hr27 => ?_))
    dsimp only [Option.toList, List.cons_append, List.nil_append]
    refine x_if_eq (tgt := 43) dX4_addBus_30 (by decide) (fun c30 => ?_) (fun c30 => ?_)
    · have p27 := (ite01 hr27).1 c30
      rw [if_neg (by omega)] at hq
      refine x_aload_n dX4_addBus_43 rfl ?_
      refine x_get 6 hO dX4_addBus_44 f_X4_26 (by first | (simp only [gK_wI]; assumption) | assumption) ⟨by decide, by decide⟩ (v := .ref (x + 17)) (congrArg va_rf g2) ?_
      refine x_aload_n dX4_addBus_47 rfl ?_
      refine x_get 6 hO dX4_addBus_48 f_X4_19 (by first | (simp only [gK_wI]; assumption) | assumption) ⟨by decide, by decide⟩ (v := .ref (x + 4)) (congrArg va_rf g1) ?_
      refine x_callV (As := [_]) 4 hO dX4_addBus_51 o_X2_remember v_X2_remember l_X4_209 ⟨by decide, by decide⟩ (by first | (simp only [gK_wI]; assumption) | assumption) ⟨by decide, by decide⟩ rfl ⟨by decide, by decide⟩ rfl rfl (Nat.le_of_ble_eq_true rfl) (t_remember hO hX hT hR (fun C1 hR1 hF1 => ?_))
      dsimp only [Option.toList, List.cons_append, List.nil_append]
      have hF := hF1
      have hR := hR1
      obtain ⟨hk, π, hs, hv⟩ := id hR
      obtain ⟨hK, ⟨g0, g1, g2, g3, g4, g5, g6⟩, hTx, hNow, hHi, ⟨ks, ns, es⟩, ⟨kf, nf⟩, hTr, hPr, hSl, hgz⟩ := id hs
      have kTx := hTx.1
      have kNow := hNow.1
      have kHi := hHi.1
      have kTr := hTr.1
      have kPr := hPr.1
      obtain ⟨vT, vN, vH, vS⟩ : TxV (gI C1) (x + 1) S n ∧ VaD (gI C1) (x + 4) ρ ∧ HiV (gI C1) (x + 17) π (rem14 L ρ) ∧ SlV (gI C1) x K := hv
      obtain ⟨ok1, ok2, ok3, ok4, ok5, ok6⟩ : Ok T ρ ∧ (∀ σ, σ ∈ rem14 L ρ → Ok T σ) ∧ (∀ i σ, K i = some σ → Ok T σ) ∧ n ≤ 120 ∧ (∀ i, i < n → S i < 256) ∧ (rem14 L ρ).length ≤ 14 := hk
      obtain ⟨hW, hB⟩ := id ok1
      obtain ⟨b0, b3, b4, b5, b6, b7⟩ := id hB
      obtain ⟨w1, w2, w7, w8, w9, w10, w11, w11', w12, wB, wP⟩ := id hW
      obtain ⟨s0, s1, s2, s3, v4, v5, v6, v7, v8, v9, v10⟩ := SkD_f hNow vN
      refine x_aload_n dX4_addBus_54 rfl ?_
      refine x_get 6 hO dX4_addBus_55 f_X4_19 (by first | (simp only [gK_wI]; assumption) | assumption) ⟨by decide, by decide⟩ (v := .ref (x + 4)) (congrArg va_rf g1) ?_
      refine x_iload_n dX4_addBus_58 rfl ?_
      refine x_iload_n dX4_addBus_59 rfl ?_
      refine x_iload_n dX4_addBus_60 rfl ?_
      refine x_iload dX4_addBus_61 rfl ?_
      refine x_iload dX4_addBus_63 rfl ?_
      refine x_callV (As := [_, _, _, _, _]) 3 hO dX4_addBus_65 o_X1_putBus v_X1_putBus l_X4_213 ⟨by decide, by decide⟩ (by first | (simp only [gK_wI]; assumption) | assumption) ⟨by decide, by decide⟩ rfl ⟨by decide, by decide⟩ rfl rfl (Nat.le_of_ble_eq_true rfl) (s_putBus (C := C1) hO hNow vN hW (fun h8 f hf1 hf2 => ?_) (fun h8 => absurd h8 (by omega)))
      dsimp only [Option.toList, List.cons_append, List.nil_append]
      refine x_iret dX4_addBus_68 rfl rfl ?_
      exact hq rfl _ (RX_now hR (fun a ha => hf2 a (by omega)) hf1 (Nat.le_refl _) (Ok_addB ok1 hok h8)) (Fr_trans hF (Fr_wI fun a ha => hf2 a (by omega)))
    · have p27 := (ite01 hr27).2 c30
      refine x_throwS (names := nmsX) hO hX.1 dX4_addBus_33 dX4_addBus_36 dX4_addBus_37 dX4_addBus_39 dX4_addBus_42 fit_56 nms_fit q_X4_52 ini_IllegalStateException (hX.2.1 15 _ _ _ rfl) g1_56 dcl g2_56 (dcl_ok hO) (gd_56 _) (Nat.le_of_ble_eq_true rfl) ⟨by decide, by decide⟩ ⟨by decide, by decide⟩ ?_
      rw [if_pos (by omega)] at hx2
      exact fun z hz => hx2 rfl _ (RX_wZ hR hz) (Fr_wZ hz)
  · have p7 := (ite01 hr7).1 c10
    refine x_throwS (names := nmsX) hO hX.1 dX4_addBus_13 dX4_addBus_16 dX4_addBus_17 dX4_addBus_19 dX4_addBus_22 fit_181 nms_fit q_X4_177 ini_IllegalArgumentException (hX.2.1 14 _ _ _ rfl) g1_181 dcl g2_181 (dcl_ok hO) (gd_181 _) (Nat.le_of_ble_eq_true rfl) ⟨by decide, by decide⟩ ⟨by decide, by decide⟩ ?_
    have eA : aAddBus (S, n, ρ, L, K) a b c d e = (1, 0, (S, n, ρ, L, K)) := if_neg p7
    rw [eA] at hx1
    exact fun z hz => hx1 rfl _ (RX_wZ hR hz) (Fr_wZ hz)

theorem t_requireRoom {G : GT} {C : AH} {Q : QT} {X : XT} {sa va : Nat → Nat} {x T n : Nat} {S : Nat → Nat} {ρ : Rw} {L : List Rw} {K : Nat → Option Rw} (hO : GO G) (hX : GX G sa va) (hT : T ≤ 40000) (hR : RX T C x (S, n, ρ, L, K)) (hq : ρ 2 < 5 → Q none C) (hx : ρ 2 = 5 → ∀ z : Nat, gz C ≤ z → X "java/lang/IllegalStateException" (wZ C z)) : Mt G M_X4_requireRoomForCharger [.ref x] C Q X := by
  refine Mt_of (by decide) (Nat.le_of_ble_eq_true rfl) ?_
  obtain ⟨hk, π, hs, hv⟩ := id hR
  obtain ⟨hK, ⟨g0, g1, g2, g3, g4, g5, g6⟩, hTx, hNow, hHi, ⟨ks, ns, es⟩, ⟨kf, nf⟩, hTr, hPr, hSl, hgz⟩ := id hs
  have kTx := hTx.1
  have kNow := hNow.1
  have kHi := hHi.1
  have kTr := hTr.1
  have kPr := hPr.1
  obtain ⟨vT, vN, vH, vS⟩ : TxV (gI C) (x + 1) S n ∧ VaD (gI C) (x + 4) ρ ∧ HiV (gI C) (x + 17) π L ∧ SlV (gI C) x K := hv
  obtain ⟨ok1, ok2, ok3, ok4, ok5, ok6⟩ : Ok T ρ ∧ (∀ σ, σ ∈ L → Ok T σ) ∧ (∀ i σ, K i = some σ → Ok T σ) ∧ n ≤ 120 ∧ (∀ i, i < n → S i < 256) ∧ L.length ≤ 14 := hk
  obtain ⟨hW, hB⟩ := id ok1
  obtain ⟨b0, b3, b4, b5, b6, b7⟩ := id hB
  obtain ⟨w1, w2, w7, w8, w9, w10, w11, w11', w12, wB, wP⟩ := id hW
  obtain ⟨s0, s1, s2, s3, v4, v5, v6, v7, v8, v9, v10⟩ := SkD_f hNow vN
  refine x_aload_n dX4_requireRoomForCharger_0 rfl ?_
  refine x_get 6 hO dX4_requireRoomForCharger_1 f_X4_19 (by first | (simp only [gK_wI]; assumption) | assumption) ⟨by decide, by decide⟩ (v := .ref (x + 4)) (congrArg va_rf g1) ?_
  refine x_callV (As := []) 3 hO dX4_requireRoomForCharger_4 o_X1_isFullOfChargers v_X1_isFullOfChargers l_X4_316 ⟨by decide, by decide⟩ (by first | (simp only [gK_wI]; assumption) | assumption) ⟨by decide, by decide⟩ rfl ⟨by decide, by decide⟩ rfl rfl (Nat.le_of_ble_eq_true rfl) (s_isFullOfChargers2 hO hNow vN.2.1 w2 (fun r4 hr4 => ?_))
  dsimp only [Option.toList, List.cons_append, List.nil_append]
  refine x_if_eq (tgt := 21) dX4_requireRoomForCharger_7 (by decide) (fun c7 => ?_) (fun c7 => ?_)
  · have p4 := (ite01 hr4).1 c7
    refine x_ret dX4_requireRoomForCharger_21 rfl ?_
    exact hq (by omega)
  · have p4 := (ite01 hr4).2 c7
    refine x_throwSW (names := nmsX) hO hX.1 dX4_requireRoomForCharger_10 dX4_requireRoomForCharger_13 dX4_requireRoomForCharger_14 dX4_requireRoomForCharger_17 dX4_requireRoomForCharger_20 fit_56 nms_fit q_X4_52 ini_IllegalStateException (hX.2.1 16 _ _ _ rfl) g1_56 dcl g2_56 (dcl_ok hO) (gd_56 _) (Nat.le_of_ble_eq_true rfl) ⟨by decide, by decide⟩ ⟨by decide, by decide⟩ ?_
    exact fun z hz => hx (by omega) z hz
theorem t_addCharger {G : GT} {C : AH} {Q : QT} {X : XT} {sa va : Nat → Nat} {x T n : Nat} {S : Nat → Nat} {ρ : Rw} {L : List Rw} {K : Nat → Option Rw} {w : Int32} (hO : GO G) (hX : GX G sa va) (hT : T ≤ 40000) (hR : RX T C x (S, n, ρ, L, K)) (hq : (aAddC (S, n, ρ, L, K) w).1 = 0 → ∀ C' : AH, RX (T) C' x (aAddC (S, n, ρ, L, K) w).2.2 → Fr C C' x 255 → Q (some (.int (aAddC (S, n, ρ, L, K) w).2.1)) C') (hx1 : (aAddC (S, n, ρ, L, K) w).1 = 1 → ∀ C' : AH, RX (T) C' x (aAddC (S, n, ρ, L, K) w).2.2 → Fr C C' x 255 → X "java/lang/IllegalArgumentException" C') (hx2 : (aAddC (S, n, ρ, L, K) w).1 = 2 → ∀ C' : AH, RX (T) C' x (aAddC (S, n, ρ, L, K) w).2.2 → Fr C C' x 255 → X "java/lang/IllegalStateException" C') : Mt G M_X4_addCharger [.ref x, .int w] C Q X := by
  refine Mt_of (by decide) (Nat.le_of_ble_eq_true rfl) ?_
  obtain ⟨hk, π, hs, hv⟩ := id hR
  obtain ⟨hK, ⟨g0, g1, g2, g3, g4, g5, g6⟩, hTx, hNow, hHi, ⟨ks, ns, es⟩, ⟨kf, nf⟩, hTr, hPr, hSl, hgz⟩ := id hs
  have kTx := hTx.1
  have kNow := hNow.1
  have kHi := hHi.1
  have kTr := hTr.1
  have kPr := hPr.1
  obtain ⟨vT, vN, vH, vS⟩ : TxV (gI C) (x + 1) S n ∧ VaD (gI C) (x + 4) ρ ∧ HiV (gI C) (x + 17) π L ∧ SlV (gI C) x K := hv
  obtain ⟨ok1, ok2, ok3, ok4, ok5, ok6⟩ : Ok T ρ ∧ (∀ σ, σ ∈ L → Ok T σ) ∧ (∀ i σ, K i = some σ → Ok T σ) ∧ n ≤ 120 ∧ (∀ i, i < n → S i < 256) ∧ L.length ≤ 14 := hk
  obtain ⟨hW, hB⟩ := id ok1
  obtain ⟨b0, b3, b4, b5, b6, b7⟩ := id hB
  obtain ⟨w1, w2, w7, w8, w9, w10, w11, w11', w12, wB, wP⟩ := id hW
  obtain ⟨s0, s1, s2, s3, v4, v5, v6, v7, v8, v9, v10⟩ := SkD_f hNow vN
  refine x_iload_n dX4_addCharger_0 rfl ?_
  refine x_iconst (v := nI 1) dX4_addCharger_1 (by decide) ?_
  refine x_bipush (v := nI 50) dX4_addCharger_2 (by decide) ?_
  refine x_callS (As := [_, _, _]) hO dX4_addCharger_4 o_X4_requireWithin s_X4_requireWithin l_X4_44 ⟨by decide, by decide⟩ ⟨by decide, by decide⟩ rfl rfl (Nat.le_of_ble_eq_true rfl) (s_requireWithin hO hX (fun h5 => ?_) (fun h5 => ?_))
  · dsimp only [Option.toList, List.cons_append, List.nil_append]
    obtain ⟨k, hk0, hk9, rfl⟩ := (rng (by decide) (by decide)).mp h5
    have eA : aAddC (S, n, ρ, L, K) (nI k) = if ρ 2 = 5 then (2, 0, (S, n, ρ, L, K)) else (0, nI (ρ 2), (S, n, addC ρ k, rem14 L ρ, K)) := by
      unfold aAddC
      rw [if_pos h5, nI_clamp (by omega)]
    rw [eA] at hq hx2
    refine x_aload_n dX4_addCharger_7 rfl ?_
    refine x_callV (As := []) 6 hO dX4_addCharger_8 o_X4_requireRoomForCharger v_X4_requireRoomForCharger l_X4_217 ⟨by decide, by decide⟩ (by first | (simp only [gK_wI]; assumption) | assumption) ⟨by decide, by decide⟩ rfl ⟨by decide, by decide⟩ rfl rfl (Nat.le_of_ble_eq_true rfl) (t_requireRoom hO hX hT hR (fun h6 => ?_) (fun h6 => ?_))
    · dsimp only [Option.toList, List.cons_append, List.nil_append]
      rw [if_neg (by omega)] at hq
      refine x_aload_n dX4_addCharger_11 rfl ?_
      refine x_get 6 hO dX4_addCharger_12 f_X4_26 (by first | (simp only [gK_wI]; assumption) | assumption) ⟨by decide, by decide⟩ (v := .ref (x + 17)) (congrArg va_rf g2) ?_
      refine x_aload_n dX4_addCharger_15 rfl ?_
      refine x_get 6 hO dX4_addCharger_16 f_X4_19 (by first | (simp only [gK_wI]; assumption) | assumption) ⟨by decide, by decide⟩ (v := .ref (x + 4)) (congrArg va_rf g1) ?_
      refine x_callV (As := [_]) 4 hO dX4_addCharger_19 o_X2_remember v_X2_remember l_X4_209 ⟨by decide, by decide⟩ (by first | (simp only [gK_wI]; assumption) | assumption) ⟨by decide, by decide⟩ rfl ⟨by decide, by decide⟩ rfl rfl (Nat.le_of_ble_eq_true rfl) (t_remember hO hX hT hR (fun C1 hR1 hF1 => ?_))
      dsimp only [Option.toList, List.cons_append, List.nil_append]
      have hF := hF1
      have hR := hR1
      obtain ⟨hk, π, hs, hv⟩ := id hR
      obtain ⟨hK, ⟨g0, g1, g2, g3, g4, g5, g6⟩, hTx, hNow, hHi, ⟨ks, ns, es⟩, ⟨kf, nf⟩, hTr, hPr, hSl, hgz⟩ := id hs
      have kTx := hTx.1
      have kNow := hNow.1
      have kHi := hHi.1
      have kTr := hTr.1
      have kPr := hPr.1
      obtain ⟨vT, vN, vH, vS⟩ : TxV (gI C1) (x + 1) S n ∧ VaD (gI C1) (x + 4) ρ ∧ HiV (gI C1) (x + 17) π (rem14 L ρ) ∧ SlV (gI C1) x K := hv
      obtain ⟨ok1, ok2, ok3, ok4, ok5, ok6⟩ : Ok T ρ ∧ (∀ σ, σ ∈ rem14 L ρ → Ok T σ) ∧ (∀ i σ, K i = some σ → Ok T σ) ∧ n ≤ 120 ∧ (∀ i, i < n → S i < 256) ∧ (rem14 L ρ).length ≤ 14 := hk
      obtain ⟨hW, hB⟩ := id ok1
      obtain ⟨b0, b3, b4, b5, b6, b7⟩ := id hB
      obtain ⟨w1, w2, w7, w8, w9, w10, w11, w11', w12, wB, wP⟩ := id hW
      obtain ⟨s0, s1, s2, s3, v4, v5, v6, v7, v8, v9, v10⟩ := SkD_f hNow vN
      refine x_aload_n dX4_addCharger_22 rfl ?_
      refine x_get 6 hO dX4_addCharger_23 f_X4_19 (by first | (simp only [gK_wI]; assumption) | assumption) ⟨by decide, by decide⟩ (v := .ref (x + 4)) (congrArg va_rf g1) ?_
      refine x_iload_n dX4_addCharger_26 rfl ?_
      refine x_callV (As := [_]) 3 hO dX4_addCharger_27 o_X1_putCharger v_X1_putCharger l_X4_220 ⟨by decide, by decide⟩ (by first | (simp only [gK_wI]; assumption) | assumption) ⟨by decide, by decide⟩ rfl ⟨by decide, by decide⟩ rfl rfl (Nat.le_of_ble_eq_true rfl) (s_putCharger (C := C1) hO hNow vN hW hk0 hk9 (fun h8 f hf1 hf2 => ?_) (fun h8 => absurd h8 (by omega)))
      dsimp only [Option.toList, List.cons_append, List.nil_append]
      refine x_iret dX4_addCharger_30 rfl rfl ?_
      exact hq rfl _ (RX_now hR (fun a ha => hf2 a (by omega)) hf1 (Nat.le_refl _) (Ok_addC ok1 hk0 hk9 h8)) (Fr_trans hF (Fr_wI fun a ha => hf2 a (by omega)))
    · rw [if_pos h6] at hx2
      exact fun z hz => hx2 rfl _ (RX_wZ hR hz) (Fr_wZ hz)
  · have eA : aAddC (S, n, ρ, L, K) w = (1, 0, (S, n, ρ, L, K)) := if_neg h5
    rw [eA] at hx1
    exact fun z hz => hx1 rfl _ (RX_wZ hR hz) (Fr_wZ hz)

