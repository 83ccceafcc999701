/-! a script's command *)-/
def doesP (w a d t : Nat) (τ : Rw) : Bool × Rw := match w with
  | 1 => if 1 ≤ a ∧ a ≤ 48 then (true, runN a τ) else (false, τ)
  | 2 => if d < τ 1 ∧ τ (bi d 6) = 0 ∧ 10 ≤ t ∧ t ≤ 400 then (true, btB τ d t) else (false, τ)
  | 3 => if okSN d t then (true, stS τ d t) else (false, τ)
  | 4 => if 1 ≤ a ∧ a ≤ 50 ∧ τ 2 < 5 then (true, addC τ a) else (false, τ)
  | 5 => (decide (d < τ 1 ∧ t ≤ τ (bi d 1)), τ)
  | 6 => (decide (t = 0 ∧ d < τ 1 ∧ τ (bi d 6) = 1), τ)
  | 7 => (decide (a < 100 ∧ τ 5 ≤ a), τ)
  | 8 => (decide (t % 100 = 0 ∧ d < τ 1 ∧ (pvw τ).2.2.2.1 d = some (t / 100)), τ)
  | 9 => (decide (a < 100 ∧ a ≤ τ 6), τ)
  | _ => (false, τ)
def does (g : Nat) (τ : Rw) : Bool × Rw := doesP (g / 10000) (g % 10000) (g % 10000 / 1000) (g % 10000 % 1000) τ
theorem Ok_does {T w a d t : Nat} {τ : Rw} (h : Ok T τ) : Ok (T + 48) (doesP w a d t τ).2 := by
  have hm := Ok_mono h (show T ≤ T + 48 by omega)
  have w1 : τ 1 ≤ 8 := h.1.1
  match w with
  | 0 => exact hm
  | 1 =>
    show Ok (T + 48) (if 1 ≤ a ∧ a ≤ 48 then (true, runN a τ) else (false, τ)).2
    by_cases q : 1 ≤ a ∧ a ≤ 48
    · rw [if_pos q]; exact Ok_mono (Ok_run h (n := a)) (by omega)
    · rw [if_neg q]; exact hm
  | 2 =>
    show Ok (T + 48) (if d < τ 1 ∧ τ (bi d 6) = 0 ∧ 10 ≤ t ∧ t ≤ 400 then (true, btB τ d t) else (false, τ)).2
    by_cases q : d < τ 1 ∧ τ (bi d 6) = 0 ∧ 10 ≤ t ∧ t ≤ 400
    · rw [if_pos q]; exact Ok_btB hm (by omega) q.2.2.1 q.2.2.2
    · rw [if_neg q]; exact hm
  | 3 =>
    show Ok (T + 48) (if okSN d t then (true, stS τ d t) else (false, τ)).2
    by_cases q : okSN d t
    · rw [if_pos q]; exact Ok_stS hm q
    · rw [if_neg q]; exact hm
  | 4 =>
    show Ok (T + 48) (if 1 ≤ a ∧ a ≤ 50 ∧ τ 2 < 5 then (true, addC τ a) else (false, τ)).2
    by_cases q : 1 ≤ a ∧ a ≤ 50 ∧ τ 2 < 5
    · rw [if_pos q]; exact Ok_addC hm q.1 q.2.1 q.2.2
    · rw [if_neg q]; exact hm
  | 5 => exact hm
  | 6 => exact hm
  | 7 => exact hm
  | 8 => exact hm
  | 9 => exact hm
  | k + 10 => exact hm

theorem nrw (x : Int32) (h : x = 0 ∨ x = 1) : narrow .boolean (.int x) = .int x := by
  rcases h with rfl | rfl <;> rfl
theorem s_succeeds {G : GT} {C : AH} {Q : QT} {X : XT} {sa va : Nat → Nat} {x T U n : Nat} {S : Nat → Nat} {ρ τ : Rw} {L : List Rw} {K : Nat → Option Rw} {C0 : AH} {f0 : Nat → Nat → Int32} {g : Nat} (hC : C = wI C0 f0) (hf0 : ∀ a : Nat, (a < x + 203 ∨ x + 229 ≤ a) → f0 a = gI C0 a) (hO : GO G) (hX : GX G sa va) (hT : T ≤ 40000) (hR : RX T C0 x (S, n, ρ, L, K)) (hVt : VaD f0 (x + 203) τ) (hkt : Ok U τ) (hU : U ≤ 45000) (hg : g < 100000) (hq : ∀ (r : Int32) (h : Nat → Nat → Int32), r = (if (does g τ).1 = true then 1 else 0) → VaD h (x + 203) (does g τ).2 → (∀ a : Nat, (a < x + 203 ∨ x + 229 ≤ a) → h a = gI C0 a) → Q (some (.int r)) (wI C0 h)) : Mt G M_X4_succeeds [.ref x, .int (nI g)] C Q X := by
  subst hC
  refine Mt_of (by decide) (Nat.le_of_ble_eq_true rfl) ?_
  obtain ⟨hk, π, hs, hv⟩ := id hR
  obtain ⟨hK, ⟨g0, g1, g2, g3, g4, g5, g6⟩, hTx, hNow, hHi, ⟨ks, ns, es⟩, ⟨kf, nf⟩, hTr, hPr, hSl, hgz⟩ := id hs
  have kTx := hTx.1
  have kNow := hNow.1
  have kHi := hHi.1
  have kTr := hTr.1
  have kPr := hPr.1
  obtain ⟨vT, vN, vH, vS⟩ : TxV (gI C0) (x + 1) S n ∧ VaD (gI C0) (x + 4) ρ ∧ HiV (gI C0) (x + 17) π L ∧ SlV (gI C0) x K := hv
  obtain ⟨ok1, ok2, ok3, ok4, ok5, ok6⟩ : Ok T ρ ∧ (∀ σ, σ ∈ L → Ok T σ) ∧ (∀ i σ, K i = some σ → Ok T σ) ∧ n ≤ 120 ∧ (∀ i, i < n → S i < 256) ∧ L.length ≤ 14 := hk
  obtain ⟨hW, hB⟩ := id ok1
  obtain ⟨b0, b3, b4, b5, b6, b7⟩ := id hB
  obtain ⟨w1, w2, w7, w8, w9, w10, w11, w11', w12, wB, wP⟩ := id hW
  obtain ⟨s0, s1, s2, s3, v4, v5, v6, v7, v8, v9, v10⟩ := SkD_f (C := C0) hNow vN
  obtain ⟨hWt, hBt⟩ := id hkt
  obtain ⟨y0, y3, y4, y5, y6, y7⟩ := id hBt
  have t1 : τ 1 ≤ 8 := hWt.1
  obtain ⟨a, ha⟩ : ∃ a, g % 10000 = a := ⟨_, rfl⟩
  obtain ⟨d, hd⟩ : ∃ d, a / 1000 = d := ⟨_, rfl⟩
  obtain ⟨t, ht⟩ : ∃ t, a % 1000 = t := ⟨_, rfl⟩
  obtain ⟨w, hw⟩ : ∃ w, g / 10000 = w := ⟨_, rfl⟩
  refine x_iload_n dX4_succeeds_0 rfl ?_
  refine x_sipush (v := nI 10000) dX4_succeeds_1 (by decide) ?_
  refine x_irem dX4_succeeds_4 (by decide) ?_
  rw [pk_rem (by omega) (by decide) (by decide), ha]
  refine x_istore_n dX4_succeeds_5 (by decide) ?_
  refine x_iload_n dX4_succeeds_6 rfl ?_
  refine x_sipush (v := nI 1000) dX4_succeeds_7 (by decide) ?_
  refine x_idiv dX4_succeeds_10 (by decide) ?_
  rw [pk_div (by omega) (by decide) (by decide), hd]
  refine x_istore_n dX4_succeeds_11 (by decide) ?_
  refine x_iload_n dX4_succeeds_12 rfl ?_
  refine x_sipush (v := nI 1000) dX4_succeeds_13 (by decide) ?_
  refine x_irem dX4_succeeds_16 (by decide) ?_
  rw [pk_rem (by omega) (by decide) (by decide), ht]
  refine x_istore dX4_succeeds_17 (by decide) ?_
  refine x_iload_n dX4_succeeds_19 rfl ?_
  refine x_sipush (v := nI 10000) dX4_succeeds_20 (by decide) ?_
  refine x_idiv dX4_succeeds_23 (by decide) ?_
  rw [pk_div (by omega) (by decide) (by decide), hw]
  rcases (show w = 0 ∨ w = 1 ∨ w = 2 ∨ w = 3 ∨ w = 4 ∨ w = 5 ∨ w = 6 ∨ w = 7 ∨ w = 8 ∨ w = 9 by omega) with rfl | rfl | rfl | rfl | rfl | rfl | rfl | rfl | rfl | rfl
  · have hD : does g τ = doesP 0 a d t τ := by unfold does; rw [hw, ha, hd, ht]
    refine x_tableOut (tgt := 229) dX4_succeeds_24 (by decide +kernel) (by decide) ?_
    refine x_iconst (v := nI 0) dX4_succeeds_229 (by decide) ?_
    refine x_iret dX4_succeeds_230 rfl (by first | rfl | assumption) ?_
    exact hq 0 f0 (by rw [hD]; rfl) (by rw [hD]; exact hVt) hf0
  · have hD : does g τ = doesP 1 a d t τ := by unfold does; rw [hw, ha, hd, ht]
    refine x_tableIn (off := 52) (tgt := 76) dX4_succeeds_24 (by decide +kernel) (by decide +kernel) (by decide +kernel) (by decide) ?_
    refine x_aload_n dX4_succeeds_76 rfl ?_
    refine x_get 6 hO dX4_succeeds_77 f_X4_38 (by first | (simp only [gK_wI]; assumption) | assumption) ⟨by decide, by decide⟩ (v := .ref (x + 203)) (congrArg va_rf g5) ?_
    refine x_iload_n dX4_succeeds_80 rfl ?_
    refine x_callV (As := [_]) 3 hO dX4_succeeds_81 o_X1_tryPassHours v_X1_tryPassHours l_X4_347 ⟨by decide, by decide⟩ (by first | (simp only [gK_wI]; assumption) | assumption) ⟨by decide, by decide⟩ rfl ⟨by decide, by decide⟩ rfl rfl (Nat.le_of_ble_eq_true rfl) (s_tryPassHours (C := wI C0 f0) hO hTr hVt hWt hBt (by omega) (fun m m1 m2 m3 h q1 q2 => ?_) (fun q0 => ?_))
    · dsimp only [Option.toList, List.cons_append, List.nil_append]
      have e := (nI_eq (by omega) (by omega)).mp m3
      subst e
      refine x_iret dX4_succeeds_84 rfl (nrw _ (by first | exact Or.inl rfl | exact Or.inr rfl | (by_cases q9 : d < τ 1; (rw [q1 d q9 rfl]; split; exact Or.inr rfl; exact Or.inl rfl); exact Or.inl (q2 fun j hj e => q9 (by rw [(nI_eq (by omega) (by omega)).mp e]; exact hj))))) ?_
      have hc : doesP 1 a d t τ = (true, runN a τ) := if_pos ⟨m1, m2⟩
      refine hq 1 h (by rw [hD, hc]; rfl) (by rw [hD, hc]; exact q1) fun b hb => (q2 b (by omega)).trans (hf0 b hb)
    · dsimp only [Option.toList, List.cons_append, List.nil_append]
      refine x_iret dX4_succeeds_84 rfl (nrw _ (by first | exact Or.inl rfl | exact Or.inr rfl | (by_cases q9 : d < τ 1; (rw [q1 d q9 rfl]; split; exact Or.inr rfl; exact Or.inl rfl); exact Or.inl (q2 fun j hj e => q9 (by rw [(nI_eq (by omega) (by omega)).mp e]; exact hj))))) ?_
      have hc : doesP 1 a d t τ = (false, τ) := if_neg fun q => q0 ⟨a, q.1, q.2, rfl⟩
      refine hq 0 f0 (by rw [hD, hc]; rfl) (by rw [hD, hc]; exact hVt) hf0
  · have hD : does g τ = doesP 2 a d t τ := by unfold does; rw [hw, ha, hd, ht]
    refine x_tableIn (off := 61) (tgt := 85) dX4_succeeds_24 (by decide +kernel) (by decide +kernel) (by decide +kernel) (by decide) ?_
    refine x_aload_n dX4_succeeds_85 rfl ?_
    refine x_get 6 hO dX4_succeeds_86 f_X4_38 (by first | (simp only [gK_wI]; assumption) | assumption) ⟨by decide, by decide⟩ (v := .ref (x + 203)) (congrArg va_rf g5) ?_
    refine x_iload_n dX4_succeeds_89 rfl ?_
    refine x_iload dX4_succeeds_90 rfl ?_
    refine x_callV (As := [_, _]) 3 hO dX4_succeeds_92 o_X1_tryGiveBattery v_X1_tryGiveBattery l_X4_350 ⟨by decide, by decide⟩ (by first | (simp only [gK_wI]; assumption) | assumption) ⟨by decide, by decide⟩ rfl ⟨by decide, by decide⟩ rfl rfl (Nat.le_of_ble_eq_true rfl) (s_tryGiveBattery (C := wI C0 f0) hO hTr hVt hWt (fun j z m1 m2 m3 m4 m5 m6 h q1 q2 => ?_) (fun q0 => ?_))
    · dsimp only [Option.toList, List.cons_append, List.nil_append]
      have e := (nI_eq (by omega) (by omega)).mp m2
      have e2 := (nI_eq (by omega) (by omega)).mp m6
      subst e e2
      refine x_iret dX4_succeeds_95 rfl (nrw _ (by first | exact Or.inl rfl | exact Or.inr rfl | (by_cases q9 : d < τ 1; (rw [q1 d q9 rfl]; split; exact Or.inr rfl; exact Or.inl rfl); exact Or.inl (q2 fun j hj e => q9 (by rw [(nI_eq (by omega) (by omega)).mp e]; exact hj))))) ?_
      have hc : doesP 2 a d t τ = (true, btB τ d t) := if_pos ⟨m1, m3, m4, m5⟩
      refine hq 1 h (by rw [hD, hc]; rfl) (by rw [hD, hc]; exact q1) fun b hb => (q2 b (by omega)).trans (hf0 b hb)
    · dsimp only [Option.toList, List.cons_append, List.nil_append]
      refine x_iret dX4_succeeds_95 rfl (nrw _ (by first | exact Or.inl rfl | exact Or.inr rfl | (by_cases q9 : d < τ 1; (rw [q1 d q9 rfl]; split; exact Or.inr rfl; exact Or.inl rfl); exact Or.inl (q2 fun j hj e => q9 (by rw [(nI_eq (by omega) (by omega)).mp e]; exact hj))))) ?_
      have hc : doesP 2 a d t τ = (false, τ) := if_neg fun q => q0 ⟨d, t, q.1, rfl, q.2.1, q.2.2.1, q.2.2.2, rfl⟩
      refine hq 0 f0 (by rw [hD, hc]; rfl) (by rw [hD, hc]; exact hVt) hf0
  · have hD : does g τ = doesP 3 a d t τ := by unfold does; rw [hw, ha, hd, ht]
    refine x_tableIn (off := 72) (tgt := 96) dX4_succeeds_24 (by decide +kernel) (by decide +kernel) (by decide +kernel) (by decide) ?_
    refine x_aload_n dX4_succeeds_96 rfl ?_
    refine x_get 6 hO dX4_succeeds_97 f_X4_38 (by first | (simp only [gK_wI]; assumption) | assumption) ⟨by decide, by decide⟩ (v := .ref (x + 203)) (congrArg va_rf g5) ?_
    refine x_iload_n dX4_succeeds_100 rfl ?_
    refine x_iload dX4_succeeds_101 rfl ?_
    refine x_callV (As := [_, _]) 3 hO dX4_succeeds_103 o_X1_tryChange v_X1_tryChange l_X4_353 ⟨by decide, by decide⟩ (by first | (simp only [gK_wI]; assumption) | assumption) ⟨by decide, by decide⟩ rfl ⟨by decide, by decide⟩ rfl rfl (Nat.le_of_ble_eq_true rfl) (s_tryChange (C := wI C0 f0) hO hX hTr hVt hWt (fun j z m1 m2 m3 h q1 q2 => ?_) (fun q0 => ?_))
    · dsimp only [Option.toList, List.cons_append, List.nil_append]
      have y2 : z ≤ 999 := Nat.le_trans m3.2.2 (by unfold hiS; split <;> (try split) <;> (try split) <;> omega)
      have y3 := m3.1
      have e := (nI_eq (by omega) (by omega)).mp m1
      have e2 := (nI_eq (by omega) (by omega)).mp m2
      subst e e2
      refine x_iret dX4_succeeds_106 rfl (nrw _ (by first | exact Or.inl rfl | exact Or.inr rfl | (by_cases q9 : d < τ 1; (rw [q1 d q9 rfl]; split; exact Or.inr rfl; exact Or.inl rfl); exact Or.inl (q2 fun j hj e => q9 (by rw [(nI_eq (by omega) (by omega)).mp e]; exact hj))))) ?_
      have hc : doesP 3 a d t τ = (true, stS τ d t) := if_pos m3
      refine hq 1 h (by rw [hD, hc]; rfl) (by rw [hD, hc]; exact q1) fun b hb => (q2 b (by omega)).trans (hf0 b hb)
    · dsimp only [Option.toList, List.cons_append, List.nil_append]
      refine x_iret dX4_succeeds_106 rfl (nrw _ (by first | exact Or.inl rfl | exact Or.inr rfl | (by_cases q9 : d < τ 1; (rw [q1 d q9 rfl]; split; exact Or.inr rfl; exact Or.inl rfl); exact Or.inl (q2 fun j hj e => q9 (by rw [(nI_eq (by omega) (by omega)).mp e]; exact hj))))) ?_
      have hc : doesP 3 a d t τ = (false, τ) := if_neg fun q => q0 (okS_N.mpr ⟨d, t, rfl, rfl, q⟩)
      refine hq 0 f0 (by rw [hD, hc]; rfl) (by rw [hD, hc]; exact hVt) hf0
  · have hD : does g τ = doesP 4 a d t τ := by unfold does; rw [hw, ha, hd, ht]
    refine x_tableIn (off := 83) (tgt := 107) dX4_succeeds_24 (by decide +kernel) (by decide +kernel) (by decide +kernel) (by decide) ?_
    refine x_aload_n dX4_succeeds_107 rfl ?_
    refine x_get 6 hO dX4_succeeds_108 f_X4_38 (by first | (simp only [gK_wI]; assumption) | assumption) ⟨by decide, by decide⟩ (v := .ref (x + 203)) (congrArg va_rf g5) ?_
    refine x_iload_n dX4_succeeds_111 rfl ?_
    refine x_callV (As := [_]) 3 hO dX4_succeeds_112 o_X1_tryPutCharger v_X1_tryPutCharger l_X4_356 ⟨by decide, by decide⟩ (by first | (simp only [gK_wI]; assumption) | assumption) ⟨by decide, by decide⟩ rfl ⟨by decide, by decide⟩ rfl rfl (Nat.le_of_ble_eq_true rfl) (s_tryPutCharger (C := wI C0 f0) hO hTr hVt hWt (fun j m1 m2 m3 m4 h q1 q2 => ?_) (fun q0 => ?_))
    · dsimp only [Option.toList, List.cons_append, List.nil_append]
      have e := (nI_eq (by omega) (by omega)).mp m3
      subst e
      refine x_iret dX4_succeeds_115 rfl (nrw _ (by first | exact Or.inl rfl | exact Or.inr rfl | (by_cases q9 : d < τ 1; (rw [q1 d q9 rfl]; split; exact Or.inr rfl; exact Or.inl rfl); exact Or.inl (q2 fun j hj e => q9 (by rw [(nI_eq (by omega) (by omega)).mp e]; exact hj))))) ?_
      have hc : doesP 4 a d t τ = (true, addC τ a) := if_pos ⟨m1, m2, m4⟩
      refine hq 1 h (by rw [hD, hc]; rfl) (by rw [hD, hc]; exact q1) fun b hb => (q2 b (by omega)).trans (hf0 b hb)
    · dsimp only [Option.toList, List.cons_append, List.nil_append]
      refine x_iret dX4_succeeds_115 rfl (nrw _ (by first | exact Or.inl rfl | exact Or.inr rfl | (by_cases q9 : d < τ 1; (rw [q1 d q9 rfl]; split; exact Or.inr rfl; exact Or.inl rfl); exact Or.inl (q2 fun j hj e => q9 (by rw [(nI_eq (by omega) (by omega)).mp e]; exact hj))))) ?_
      have hc : doesP 4 a d t τ = (false, τ) := if_neg fun q => q0 ⟨a, q.1, q.2.1, rfl, q.2.2⟩
      refine hq 0 f0 (by rw [hD, hc]; rfl) (by rw [hD, hc]; exact hVt) hf0
  · have hD : does g τ = doesP 5 a d t τ := by unfold does; rw [hw, ha, hd, ht]
    refine x_tableIn (off := 92) (tgt := 116) dX4_succeeds_24 (by decide +kernel) (by decide +kernel) (by decide +kernel) (by decide) ?_
    refine x_aload_n dX4_succeeds_116 rfl ?_
    refine x_get 6 hO dX4_succeeds_117 f_X4_38 (by first | (simp only [gK_wI]; assumption) | assumption) ⟨by decide, by decide⟩ (v := .ref (x + 203)) (congrArg va_rf g5) ?_
    refine x_iload_n dX4_succeeds_120 rfl ?_
    refine x_iload dX4_succeeds_121 rfl ?_
    refine x_callV (As := [_, _]) 3 hO dX4_succeeds_123 o_X1_hasCharge v_X1_hasCharge l_X4_359 ⟨by decide, by decide⟩ (by first | (simp only [gK_wI]; assumption) | assumption) ⟨by decide, by decide⟩ rfl ⟨by decide, by decide⟩ rfl rfl (Nat.le_of_ble_eq_true rfl) (s_hasCharge (C := wI C0 f0) hO hTr hVt hWt (by omega) (fun r q1 q2 => ?_))
    dsimp only [Option.toList, List.cons_append, List.nil_append]
    refine x_iret dX4_succeeds_126 rfl (nrw _ (by first | exact Or.inl rfl | exact Or.inr rfl | (by_cases q9 : d < τ 1; (rw [q1 d q9 rfl]; split; exact Or.inr rfl; exact Or.inl rfl); exact Or.inl (q2 fun j hj e => q9 (by rw [(nI_eq (by omega) (by omega)).mp e]; exact hj))))) ?_
    refine hq r f0 ?_ (by rw [hD]; exact hVt) hf0
    rw [hD]
    show r = (if decide (d < τ 1 ∧ t ≤ τ (bi d 1)) = true then 1 else 0)
    by_cases hd9 : d < τ 1
    · rw [q1 d hd9 rfl]
      by_cases ht9 : t ≤ τ (bi d 1)
      · rw [if_pos ht9, if_pos (by simpa using ⟨hd9, ht9⟩)]
      · rw [if_neg ht9, if_neg (by simp; omega)]
    · rw [q2 fun j hj e => hd9 (by rw [(nI_eq (by omega) (by omega)).mp e]; exact hj), if_neg (by simp; omega)]
  · have hD : does g τ = doesP 6 a d t τ := by unfold does; rw [hw, ha, hd, ht]
    refine x_tableIn (off := 103) (tgt := 127) dX4_succeeds_24 (by decide +kernel) (by decide +kernel) (by decide +kernel) (by decide) ?_
    refine x_iload dX4_succeeds_127 rfl ?_
    refine x_if_ne (tgt := 147) dX4_succeeds_129 (by decide) (fun c129 => ?_) (fun c129 => ?_)
    · simp (disch := omega) only [nI_z] at c129
      refine x_iconst (v := nI 0) dX4_succeeds_147 (by decide) ?_
      refine x_iret dX4_succeeds_148 rfl (by first | rfl | assumption) ?_
      first
        | (refine hq 1 f0 (by rw [hD]; exact (if_pos (by simp [doesP]; omega)).symm) (by rw [hD]; exact hVt) hf0; done)
        | exact hq 0 f0 (by rw [hD]; exact (if_neg (by simp [doesP]; omega)).symm) (by rw [hD]; exact hVt) hf0
    · simp (disch := omega) only [nI_z] at c129
      refine x_aload_n dX4_succeeds_132 rfl ?_
      refine x_get 6 hO dX4_succeeds_133 f_X4_38 (by first | (simp only [gK_wI]; assumption) | assumption) ⟨by decide, by decide⟩ (v := .ref (x + 203)) (congrArg va_rf g5) ?_
      refine x_iload_n dX4_succeeds_136 rfl ?_
      refine x_callV (As := [_]) 3 hO dX4_succeeds_137 o_X1_isOut v_X1_isOut l_X4_362 ⟨by decide, by decide⟩ (by first | (simp only [gK_wI]; assumption) | assumption) ⟨by decide, by decide⟩ rfl ⟨by decide, by decide⟩ rfl rfl (Nat.le_of_ble_eq_true rfl) (s_isOut (C := wI C0 f0) hO hTr hVt hWt (fun j m1 m2 => ?_) (fun q0 => ?_))
      · dsimp only [Option.toList, List.cons_append, List.nil_append]
        have e := (nI_eq (by omega) (by omega)).mp m2
        subst e
        refine x_if_eq (tgt := 147) dX4_succeeds_140 (by decide) (fun c140 => ?_) (fun c140 => ?_)
        · have hw6 : τ (bi d 6) ≤ 1 := (hWt.2.2.2.2.2.2.2.2.2.1 d m1).2.2.2.2.2.2.2.2
          simp (disch := omega) only [nI_z] at c140
          refine x_iconst (v := nI 0) dX4_succeeds_147 (by decide) ?_
          refine x_iret dX4_succeeds_148 rfl (by first | rfl | assumption) ?_
          first
            | (refine hq 1 f0 (by rw [hD]; exact (if_pos (by simp [doesP]; omega)).symm) (by rw [hD]; exact hVt) hf0; done)
            | exact hq 0 f0 (by rw [hD]; exact (if_neg (by simp [doesP]; omega)).symm) (by rw [hD]; exact hVt) hf0
        · have hw6 : τ (bi d 6) ≤ 1 := (hWt.2.2.2.2.2.2.2.2.2.1 d m1).2.2.2.2.2.2.2.2
          simp (disch := omega) only [nI_z] at c140
          refine x_iconst (v := nI 1) dX4_succeeds_143 (by decide) ?_
          refine x_goto (tgt := 148) dX4_succeeds_144 (by decide) ?_
          refine x_iret dX4_succeeds_148 rfl (by first | rfl | assumption) ?_
          first
            | (refine hq 1 f0 (by rw [hD]; exact (if_pos (by simp [doesP]; omega)).symm) (by rw [hD]; exact hVt) hf0; done)
            | exact hq 0 f0 (by rw [hD]; exact (if_neg (by simp [doesP]; omega)).symm) (by rw [hD]; exact hVt) hf0
      · dsimp only [Option.toList, List.cons_append, List.nil_append]
        refine x_if_eq (tgt := 147) dX4_succeeds_140 (by decide) (fun c140 => ?_) (fun c140 => ?_)
        · refine x_iconst (v := nI 0) dX4_succeeds_147 (by decide) ?_
          refine x_iret dX4_succeeds_148 rfl (by first | rfl | assumption) ?_
          exact hq 0 f0 (by rw [hD]; exact (if_neg (by simp [doesP]; intro _ q; exact absurd rfl (q0 d q))).symm) (by rw [hD]; exact hVt) hf0
        · exact absurd rfl c140
  · have hD : does g τ = doesP 7 a d t τ := by unfold does; rw [hw, ha, hd, ht]
    refine x_tableIn (off := 125) (tgt := 149) dX4_succeeds_24 (by decide +kernel) (by decide +kernel) (by decide +kernel) (by decide) ?_
    refine x_iload_n dX4_succeeds_149 rfl ?_
    refine x_bipush (v := nI 100) dX4_succeeds_150 (by decide) ?_
    refine x_icmp_ge (tgt := 170) dX4_succeeds_152 (by decide) (fun c152 => ?_) (fun c152 => ?_)
    · simp (disch := omega) only [nI_leI, nI_ltI] at c152
      refine x_iconst (v := nI 0) dX4_succeeds_170 (by decide) ?_
      refine x_iret dX4_succeeds_171 rfl (by first | rfl | assumption) ?_
      first
        | (refine hq 1 f0 (by rw [hD]; exact (if_pos (by simp [doesP]; omega)).symm) (by rw [hD]; exact hVt) hf0; done)
        | exact hq 0 f0 (by rw [hD]; exact (if_neg (by simp [doesP]; omega)).symm) (by rw [hD]; exact hVt) hf0
    · simp (disch := omega) only [nI_leI, nI_ltI] at c152
      refine x_aload_n dX4_succeeds_155 rfl ?_
      refine x_get 6 hO dX4_succeeds_156 f_X4_38 (by first | (simp only [gK_wI]; assumption) | assumption) ⟨by decide, by decide⟩ (v := .ref (x + 203)) (congrArg va_rf g5) ?_
      refine x_get 3 hO dX4_succeeds_159 f_X4_98 (by first | (simp only [gK_wI]; assumption) | assumption) ⟨by decide, by decide⟩ (v := .int (nI (τ 5))) (congrArg Value.int hVt.2.2.2.2.2.1) ?_
      refine x_iload_n dX4_succeeds_162 rfl ?_
      refine x_icmp_gt (tgt := 170) dX4_succeeds_163 (by decide) (fun c163 => ?_) (fun c163 => ?_)
      · simp (disch := omega) only [nI_leI, nI_ltI] at c163
        refine x_iconst (v := nI 0) dX4_succeeds_170 (by decide) ?_
        refine x_iret dX4_succeeds_171 rfl (by first | rfl | assumption) ?_
        first
          | (refine hq 1 f0 (by rw [hD]; exact (if_pos (by simp [doesP]; omega)).symm) (by rw [hD]; exact hVt) hf0; done)
          | exact hq 0 f0 (by rw [hD]; exact (if_neg (by simp [doesP]; omega)).symm) (by rw [hD]; exact hVt) hf0
      · simp (disch := omega) only [nI_leI, nI_ltI] at c163
        refine x_iconst (v := nI 1) dX4_succeeds_166 (by decide) ?_
        refine x_goto (tgt := 171) dX4_succeeds_167 (by decide) ?_
        refine x_iret dX4_succeeds_171 rfl (by first | rfl | assumption) ?_
        first
          | (refine hq 1 f0 (by rw [hD]; exact (if_pos (by simp [doesP]; omega)).symm) (by rw [hD]; exact hVt) hf0; done)
          | exact hq 0 f0 (by rw [hD]; exact (if_neg (by simp [doesP]; omega)).symm) (by rw [hD]; exact hVt) hf0
  · have hD : does g τ = doesP 8 a d t τ := by unfold does; rw [hw, ha, hd, ht]
    refine x_tableIn (off := 148) (tgt := 172) dX4_succeeds_24 (by decide +kernel) (by decide +kernel) (by decide +kernel) (by decide) ?_
    refine x_iload dX4_succeeds_172 rfl ?_
    refine x_bipush (v := nI 100) dX4_succeeds_174 (by decide) ?_
    refine x_irem dX4_succeeds_176 (by decide) ?_
    rw [pk_rem (by omega) (by decide) (by decide)]
    refine x_if_ne (tgt := 204) dX4_succeeds_177 (by decide) (fun c177 => ?_) (fun c177 => ?_)
    · simp (disch := omega) only [nI_z] at c177
      refine x_iconst (v := nI 0) dX4_succeeds_204 (by decide) ?_
      refine x_iret dX4_succeeds_205 rfl (by first | rfl | assumption) ?_
      exact hq 0 f0 (by rw [hD]; exact (if_neg (by simp [doesP]; omega)).symm) (by rw [hD]; exact hVt) hf0
    · simp (disch := omega) only [nI_z] at c177
      refine x_aload_n dX4_succeeds_180 rfl ?_
      refine x_aload_n dX4_succeeds_181 rfl ?_
      refine x_get 6 hO dX4_succeeds_182 f_X4_38 (by first | (simp only [gK_wI]; assumption) | assumption) ⟨by decide, by decide⟩ (v := .ref (x + 203)) (congrArg va_rf g5) ?_
      refine x_callV (As := [_]) 6 hO dX4_succeeds_185 o_X4_previewOf v_X4_previewOf l_X4_144 ⟨by decide, by decide⟩ (by first | (simp only [gK_wI]; assumption) | assumption) ⟨by decide, by decide⟩ rfl ⟨by decide, by decide⟩ rfl rfl (Nat.le_of_ble_eq_true rfl) (s_previewOf (C := wI C0 f0) hO hK g6 hPr hTr hVt hkt (by omega) (by omega) (fun h q1 q2 q3 => ?_))
      dsimp only [Option.toList, List.cons_append, List.nil_append]
      have hm1 := (Wf_mved hWt).2
      have hWm := (Wf_mved hWt).1
      refine x_iload_n dX4_succeeds_188 rfl ?_
      refine x_callV (As := [_]) 3 hO dX4_succeeds_189 o_X1_chargerOf v_X1_chargerOf l_X4_152 ⟨by decide, by decide⟩ (by first | (simp only [gK_wI]; assumption) | assumption) ⟨by decide, by decide⟩ rfl ⟨by decide, by decide⟩ rfl rfl (Nat.le_of_ble_eq_true rfl) (s_chargerOf (C := wI C0 h) hO hPr q1 hWm q2 (fun i m1 m2 => ?_) (fun q0 => ?_))
      · dsimp only [Option.toList, List.cons_append, List.nil_append]
        have e := (nI_eq (by omega) (by omega)).mp m2
        subst e
        have hdl : d < τ 1 := by rw [← hm1]; exact m1
        have hpl := pl_lt hWm.2.1 (Nat.le_refl (mved τ 2)) d
        have e197 : enc ((pvw τ).2.2.2.1 d) = nI (t / 100) ↔ (pvw τ).2.2.2.1 d = some (t / 100) := by
          cases e : (pvw τ).2.2.2.1 d with
          | none => exact ⟨fun q => absurd q.symm (nI_m1 (by omega)), fun q => nomatch q⟩
          | some c9 =>
            have := hpl c9 e
            have := hWm.2.1
            exact ⟨fun q => by rw [(nI_eq (by omega) (by omega)).mp (show nI c9 = nI (t / 100) from q)], fun q => by cases q; rfl⟩
        refine x_iload dX4_succeeds_192 rfl ?_
        refine x_bipush (v := nI 100) dX4_succeeds_194 (by decide) ?_
        refine x_idiv dX4_succeeds_196 (by decide) ?_
        rw [pk_div (by omega) (by decide) (by decide)]
        refine x_icmp_ne (tgt := 204) dX4_succeeds_197 (by decide) (fun c197 => ?_) (fun c197 => ?_)
        · refine x_iconst (v := nI 0) dX4_succeeds_204 (by decide) ?_
          refine x_iret dX4_succeeds_205 rfl (by first | rfl | assumption) ?_
          first
            | (refine hq 1 h (by rw [hD]; exact (if_pos (by simp [doesP]; exact ⟨by omega, hdl, e197.mp c197⟩)).symm) (by rw [hD]; exact (VaD_in hWt hVt fun b h1 h2 => q3 b (by omega))) (fun b hb => (q3 b (by omega)).trans (hf0 b hb)); done)
            | exact hq 0 h (by rw [hD]; exact (if_neg (by simp [doesP]; intro _ _ q; exact c197 (e197.mpr q))).symm) (by rw [hD]; exact (VaD_in hWt hVt fun b h1 h2 => q3 b (by omega))) (fun b hb => (q3 b (by omega)).trans (hf0 b hb))
        · refine x_iconst (v := nI 1) dX4_succeeds_200 (by decide) ?_
          refine x_goto (tgt := 205) dX4_succeeds_201 (by decide) ?_
          refine x_iret dX4_succeeds_205 rfl (by first | rfl | assumption) ?_
          first
            | (refine hq 1 h (by rw [hD]; exact (if_pos (by simp [doesP]; exact ⟨by omega, hdl, e197.mp c197⟩)).symm) (by rw [hD]; exact (VaD_in hWt hVt fun b h1 h2 => q3 b (by omega))) (fun b hb => (q3 b (by omega)).trans (hf0 b hb)); done)
            | exact hq 0 h (by rw [hD]; exact (if_neg (by simp [doesP]; intro _ _ q; exact c197 (e197.mpr q))).symm) (by rw [hD]; exact (VaD_in hWt hVt fun b h1 h2 => q3 b (by omega))) (fun b hb => (q3 b (by omega)).trans (hf0 b hb))
      · dsimp only [Option.toList, List.cons_append, List.nil_append]
        refine x_iload dX4_succeeds_192 rfl ?_
        refine x_bipush (v := nI 100) dX4_succeeds_194 (by decide) ?_
        refine x_idiv dX4_succeeds_196 (by decide) ?_
        rw [pk_div (by omega) (by decide) (by decide)]
        refine x_icmp_ne (tgt := 204) dX4_succeeds_197 (by decide) (fun c197 => ?_) (fun c197 => ?_)
        · refine x_iconst (v := nI 0) dX4_succeeds_204 (by decide) ?_
          refine x_iret dX4_succeeds_205 rfl (by first | rfl | assumption) ?_
          exact hq 0 h (by rw [hD]; exact (if_neg (by simp [doesP]; intro _ q; exact absurd rfl (q0 d (by rw [hm1]; exact q)))).symm) (by rw [hD]; exact (VaD_in hWt hVt fun b h1 h2 => q3 b (by omega))) (fun b hb => (q3 b (by omega)).trans (hf0 b hb))
        · exact absurd c197.symm (nI_m1 (by omega))
  · have hD : does g τ = doesP 9 a d t τ := by unfold does; rw [hw, ha, hd, ht]
    refine x_tableIn (off := 182) (tgt := 206) dX4_succeeds_24 (by decide +kernel) (by decide +kernel) (by decide +kernel) (by decide) ?_
    refine x_iload_n dX4_succeeds_206 rfl ?_
    refine x_bipush (v := nI 100) dX4_succeeds_207 (by decide) ?_
    refine x_icmp_ge (tgt := 227) dX4_succeeds_209 (by decide) (fun c209 => ?_) (fun c209 => ?_)
    · simp (disch := omega) only [nI_leI, nI_ltI] at c209
      refine x_iconst (v := nI 0) dX4_succeeds_227 (by decide) ?_
      refine x_iret dX4_succeeds_228 rfl (by first | rfl | assumption) ?_
      first
        | (refine hq 1 f0 (by rw [hD]; exact (if_pos (by simp [doesP]; omega)).symm) (by rw [hD]; exact hVt) hf0; done)
        | exact hq 0 f0 (by rw [hD]; exact (if_neg (by simp [doesP]; omega)).symm) (by rw [hD]; exact hVt) hf0
    · simp (disch := omega) only [nI_leI, nI_ltI] at c209
      refine x_aload_n dX4_succeeds_212 rfl ?_
      refine x_get 6 hO dX4_succeeds_213 f_X4_38 (by first | (simp only [gK_wI]; assumption) | assumption) ⟨by decide, by decide⟩ (v := .ref (x + 203)) (congrArg va_rf g5) ?_
      refine x_get 3 hO dX4_succeeds_216 f_X4_101 (by first | (simp only [gK_wI]; assumption) | assumption) ⟨by decide, by decide⟩ (v := .int (nI (τ 6))) (congrArg Value.int hVt.2.2.2.2.2.2.1) ?_
      refine x_iload_n dX4_succeeds_219 rfl ?_
      refine x_icmp_lt (tgt := 227) dX4_succeeds_220 (by decide) (fun c220 => ?_) (fun c220 => ?_)
      · simp (disch := omega) only [nI_leI, nI_ltI] at c220
        refine x_iconst (v := nI 0) dX4_succeeds_227 (by decide) ?_
        refine x_iret dX4_succeeds_228 rfl (by first | rfl | assumption) ?_
        first
          | (refine hq 1 f0 (by rw [hD]; exact (if_pos (by simp [doesP]; omega)).symm) (by rw [hD]; exact hVt) hf0; done)
          | exact hq 0 f0 (by rw [hD]; exact (if_neg (by simp [doesP]; omega)).symm) (by rw [hD]; exact hVt) hf0
      · simp (disch := omega) only [nI_leI, nI_ltI] at c220
        refine x_iconst (v := nI 1) dX4_succeeds_223 (by decide) ?_
        refine x_goto (tgt := 228) dX4_succeeds_224 (by decide) ?_
        refine x_iret dX4_succeeds_228 rfl (by first | rfl | assumption) ?_
        first
          | (refine hq 1 f0 (by rw [hD]; exact (if_pos (by simp [doesP]; omega)).symm) (by rw [hD]; exact hVt) hf0; done)
          | exact hq 0 f0 (by rw [hD]; exact (if_neg (by simp [doesP]; omega)).symm) (by rw [hD]; exact hVt) hf0

