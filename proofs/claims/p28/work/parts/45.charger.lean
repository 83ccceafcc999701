/-! a charger *)-/
def plc : List Nat → Nat → Nat
  | [], _ => 0
  | a :: l, c => if a = c then 0 else plc l c + 1
theorem plc_eq {l : List Nat} {c j : Nat} (hj : j < l.length) (h : l.getD j 0 = c) (hn : ∀ i, i < j → l.getD i 0 ≠ c) : plc l c = j := by
  induction l generalizing j with
  | nil => exact absurd hj (Nat.not_lt_zero j)
  | cons a l ih =>
    cases j with
    | zero =>
      have h : a = c := h
      show (if a = c then 0 else plc l c + 1) = 0
      rw [if_pos h]
    | succ j =>
      have h0 : a ≠ c := hn 0 (by omega)
      show (if a = c then 0 else plc l c + 1) = j + 1
      rw [if_neg h0, ih (j := j) (Nat.lt_of_succ_lt_succ hj) h fun i hi => hn (i + 1) (by omega)]
theorem ordM_nd {ρ : Rw} {m : Nat} (h : ∀ c, c < m → 1 ≤ ρ (69 + c) ∧ ρ (69 + c) ≤ 50) : (ordM ρ m).Nodup := by
  induction m with
  | zero => exact List.nodup_iff_pairwise_ne.mpr List.Pairwise.nil
  | succ m ih =>
    obtain ⟨A, B, e1, e2, -, -⟩ := ord_ins (h m (Nat.lt_succ_self m)).1 (h m (Nat.lt_succ_self m)).2
    have hn := ih fun c hc => h c (by omega)
    rw [e2]
    refine (List.Perm.nodup_iff List.perm_middle).mpr (List.nodup_cons.mpr ⟨fun q => ?_, e1 ▸ hn⟩)
    rw [← e1] at q
    exact absurd (ordM_mem q) (Nat.lt_irrefl m)
theorem ordL_ok {ρ : Rw} (hW : Wf ρ) : (ordL ρ).length = ρ 2 ∧ (ordL ρ).Nodup ∧ ∀ c, c < ρ 2 → c ∈ ordL ρ := by
  have hP := hW.2.2.2.2.2.2.2.2.2.2
  refine ⟨ordM_len hP, ordM_nd hP, fun c hc => List.mem_flatMap.mpr ⟨50 - ρ (69 + c), List.mem_range.mpr (by have := hP c hc; omega), List.mem_filter.mpr ⟨List.mem_range.mpr hc, ?_⟩⟩⟩
  have := hP c hc
  simp
  omega
theorem nd_get {l : List Nat} {i j : Nat} (h : l.Nodup) (hi : i < l.length) (hj : j < l.length) (e : l.getD i 0 = l.getD j 0) : i = j := by
  rw [List.getD_eq_getElem?_getD, List.getD_eq_getElem?_getD, List.getElem?_eq_getElem hi, List.getElem?_eq_getElem hj] at e
  have hp := List.pairwise_iff_getElem.mp (List.nodup_iff_pairwise_ne.mp h)
  rcases Nat.lt_trichotomy i j with q | q | q
  · exact absurd e (hp i j hi hj q)
  · exact q
  · exact absurd e.symm (hp j i hj hi q)
/-- buses and chargers find each other -/
theorem lay_inv {ρ : Rw} (hW : Wf ρ) {k : Nat} (hk : k ≤ ρ 2) : (∀ b c, (layS ρ k).2.2.2.1 b = some c → (layS ρ k).2.2.2.2 c = some b ∧ (layS ρ k).1 b ≠ 0) ∧ ∀ c b, (layS ρ k).2.2.2.2 c = some b → (layS ρ k).2.2.2.1 b = some c ∧ b < ρ 1 ∧ ∃ i, i < k ∧ (ordL ρ).getD i 0 = c := by
  induction k with
  | zero => exact ⟨fun b c h => absurd h (by simp [layS]), fun c b h => absurd h (by simp [layS])⟩
  | succ k ih =>
    obtain ⟨i1, i2⟩ := ih (by omega)
    cases hn : nxt ρ (layS ρ k).1 with
    | none =>
      have e : layS ρ (k + 1) = layS ρ k := by simp only [layS]; rw [hn]
      rw [e]
      exact ⟨i1, fun c b h => ⟨(i2 c b h).1, (i2 c b h).2.1, (i2 c b h).2.2.imp fun i q => ⟨by omega, q.2⟩⟩⟩
    | some b9 =>
      obtain ⟨n1, n2, -, -⟩ := nxt_in hn
      obtain ⟨ol, od, -⟩ := ordL_ok hW
      have hp : (layS ρ k).2.2.2.1 b9 = none := by
        cases e : (layS ρ k).2.2.2.1 b9 with
        | none => rfl
        | some c => exact absurd n2 (i1 b9 c e).2
      have ha : (layS ρ k).2.2.2.2 ((ordL ρ).getD k 0) = none := by
        cases e : (layS ρ k).2.2.2.2 ((ordL ρ).getD k 0) with
        | none => rfl
        | some b =>
          obtain ⟨i, hi, q⟩ := (i2 _ b e).2.2
          have := nd_get od (by omega) (by omega) q
          omega
      have e : layS ρ (k + 1) = (va_up (layS ρ k).1 b9 1, (layS ρ k).2.1 - unt ρ (layS ρ k).2.1 b9 ((ordL ρ).getD k 0), va_up (layS ρ k).2.2.1 b9 (unt ρ (layS ρ k).2.1 b9 ((ordL ρ).getD k 0)), va_up (layS ρ k).2.2.2.1 b9 (some ((ordL ρ).getD k 0)), va_up (layS ρ k).2.2.2.2 ((ordL ρ).getD k 0) (some b9)) := by
        simp only [layS]
        rw [hn]
      rw [e]
      refine ⟨fun b c h => ?_, fun c b h => ?_⟩
      · have h : va_up (layS ρ k).2.2.2.1 b9 (some ((ordL ρ).getD k 0)) b = some c := h
        show va_up (layS ρ k).2.2.2.2 ((ordL ρ).getD k 0) (some b9) c = some b ∧ va_up (layS ρ k).1 b9 1 b ≠ 0
        by_cases eb : b = b9
        · subst eb
          rw [vu_s] at h
          cases h
          rw [vu_s, vu_s]
          exact ⟨rfl, by decide⟩
        · rw [vu_n eb] at h
          obtain ⟨j1, j2⟩ := i1 b c h
          have ec : c ≠ (ordL ρ).getD k 0 := fun q => by rw [q, ha] at j1; cases j1
          rw [vu_n ec, vu_n eb]
          exact ⟨j1, j2⟩
      · have h : va_up (layS ρ k).2.2.2.2 ((ordL ρ).getD k 0) (some b9) c = some b := h
        show va_up (layS ρ k).2.2.2.1 b9 (some ((ordL ρ).getD k 0)) b = some c ∧ b < ρ 1 ∧ _
        by_cases ec : c = (ordL ρ).getD k 0
        · subst ec
          rw [vu_s] at h
          cases h
          rw [vu_s]
          exact ⟨rfl, n1, k, by omega, rfl⟩
        · rw [vu_n ec] at h
          obtain ⟨j1, j2, i, j3, j4⟩ := i2 c b h
          have eb : b ≠ b9 := fun q => by rw [q, hp] at j1; cases j1
          rw [vu_n eb]
          exact ⟨j1, j2, i, by omega, j4⟩
abbrev isC (ρ : Rw) (c : Int32) : Prop := nI 0 ≤ c ∧ c ≤ nI (ρ 2) - nI 1
def chV (ρ : Rw) (c k : Nat) : Int32 := match k with
  | 0 => nI (ρ (69 + c))
  | 1 => nI (plc (ordL ρ) c)
  | _ => enc ((pvw ρ).2.2.2.2 c)
def aCharger (s : St) (c w : Int32) : An := if isC s.2.2.1 c then (if nI 0 ≤ w ∧ w ≤ nI 2 then (0, chV s.2.2.1 c.toNatClampNeg w.toNatClampNeg, s) else (2, 0, s)) else (1, 0, s)

theorem mved_2 {ρ : Rw} (hW : Wf ρ) : mved ρ 2 = ρ 2 := by
  have w1 : ρ 1 ≤ 8 := hW.1
  have e1 : back ρ 1 = ρ 1 := (Wf_back hW).2
  unfold mved
  rw [leave_o fun b hb => by simp only [tch, bi]; omega, back_o fun b hb => by simp only [bi]; omega]
theorem t_charger {G : GT} {C : AH} {Q : QT} {X : XT} {sa va : Nat → Nat} {x T n : Nat} {S : Nat → Nat} {ρ : Rw} {L : List Rw} {K : Nat → Option Rw} {c w : Int32} (hO : GO G) (hX : GX G sa va) (hT : T ≤ 40000) (hR : RX T C x (S, n, ρ, L, K)) (hq : (aCharger (S, n, ρ, L, K) c w).1 = 0 → ∀ C' : AH, RX (T) C' x (aCharger (S, n, ρ, L, K) c w).2.2 → Fr C C' x 255 → Q (some (.int (aCharger (S, n, ρ, L, K) c w).2.1)) C') (hx1 : (aCharger (S, n, ρ, L, K) c w).1 = 1 → ∀ C' : AH, RX (T) C' x (aCharger (S, n, ρ, L, K) c w).2.2 → Fr C C' x 255 → X "java/lang/IndexOutOfBoundsException" C') (hx2 : (aCharger (S, n, ρ, L, K) c w).1 = 2 → ∀ C' : AH, RX (T) C' x (aCharger (S, n, ρ, L, K) c w).2.2 → Fr C C' x 255 → X "java/lang/IllegalArgumentException" C') : Mt G M_X4_charger [.ref x, .int c, .int w] C Q X := by
  refine Mt_of (by decide) (Nat.le_of_ble_eq_true rfl) ?_
  obtain ⟨hk, π, hs, hv⟩ := id hR
  obtain ⟨hK, ⟨g0, g1, g2, g3, g4, g5, g6⟩, hTx, hNow, hHi, ⟨ks, ns, es⟩, ⟨kf, nf⟩, hTr, hPr, hSl, hgz⟩ := id hs
  have kTx := hTx.1
  have kNow := hNow.1
  have kHi := hHi.1
  have kTr := hTr.1
  have kPr := hPr.1
  obtain ⟨vT, vN, vH, vS⟩ : TxV (gI C) (x + 1) S n ∧ VaD (gI C) (x + 4) ρ ∧ HiV (gI C) (x + 17) π L ∧ SlV (gI C) x K := hv
  obtain ⟨ok1, ok2, ok3, ok4, ok5, ok6⟩ : Ok T ρ ∧ (∀ σ, σ ∈ L → Ok T σ) ∧ (∀ i σ, K i = some σ → Ok T σ) ∧ n ≤ 120 ∧ (∀ i, i < n → S i < 256) ∧ L.length ≤ 14 := hk
  obtain ⟨hW, hB⟩ := id ok1
  obtain ⟨b0, b3, b4, b5, b6, b7⟩ := id hB
  obtain ⟨w1, w2, w7, w8, w9, w10, w11, w11', w12, wB, wP⟩ := id hW
  obtain ⟨s0, s1, s2, s3, v4, v5, v6, v7, v8, v9, v10⟩ := SkD_f hNow vN
  refine x_aload_n dX4_charger_0 rfl ?_
  refine x_get 6 hO dX4_charger_1 f_X4_19 (by first | (simp only [gK_wI]; assumption) | assumption) ⟨by decide, by decide⟩ (v := .ref (x + 4)) (congrArg va_rf g1) ?_
  refine x_iload_n dX4_charger_4 rfl ?_
  refine x_callV (As := [_]) 3 hO dX4_charger_5 o_X1_hasCharger v_X1_hasCharger l_X4_159 ⟨by decide, by decide⟩ (by first | (simp only [gK_wI]; assumption) | assumption) ⟨by decide, by decide⟩ rfl ⟨by decide, by decide⟩ rfl rfl (Nat.le_of_ble_eq_true rfl) (s_hasCharger hO hNow vN hW (fun r5 hr5 => ?_))
  dsimp only [Option.toList, List.cons_append, List.nil_append]
  refine x_if_ne (tgt := 21) dX4_charger_8 (by decide) (fun c8 => ?_) (fun c8 => ?_)
  · have p5 := (ite01 hr5).2 c8
    obtain ⟨c, hc, rfl⟩ := (ix_of (by omega)).mp p5
    have eA : aCharger (S, n, ρ, L, K) (nI c) w = (if nI 0 ≤ w ∧ w ≤ nI 2 then (0, chV ρ c w.toNatClampNeg, (S, n, ρ, L, K)) else (2, 0, (S, n, ρ, L, K))) := by
      unfold aCharger
      rw [if_pos p5, nI_clamp (show c < 2 ^ 31 by omega)]
    rw [eA] at hq hx2
    refine x_iload_n dX4_charger_21 rfl ?_
    refine x_iconst (v := nI 0) dX4_charger_22 (by decide) ?_
    refine x_iconst (v := nI 2) dX4_charger_23 (by decide) ?_
    refine x_callS (As := [_, _, _]) hO dX4_charger_24 o_X4_requireWithin s_X4_requireWithin l_X4_44 ⟨by decide, by decide⟩ ⟨by decide, by decide⟩ rfl rfl (Nat.le_of_ble_eq_true rfl) (s_requireWithin hO hX (fun h5 => ?_) (fun h5 => ?_))
    · dsimp only [Option.toList, List.cons_append, List.nil_append]
      rw [if_pos h5] at hq
      obtain ⟨k, hk0, hk9, rfl⟩ := (rng (by decide) (by decide)).mp h5
      rw [nI_clamp (show k < 2 ^ 31 by omega)] at hq
      refine x_iload_n dX4_charger_27 rfl ?_
      rcases (show k = 0 ∨ k = 1 ∨ k = 2 by omega) with rfl | rfl | rfl
      · refine x_lookup (off := 28) (tgt := 56) dX4_charger_28 rfl (by decide +kernel) (by decide) ?_
        refine x_aload_n dX4_charger_56 rfl ?_
        refine x_get 6 hO dX4_charger_57 f_X4_19 (by first | (simp only [gK_wI]; assumption) | assumption) ⟨by decide, by decide⟩ (v := .ref (x + 4)) (congrArg va_rf g1) ?_
        refine x_iload_n dX4_charger_60 rfl ?_
        refine x_callV (As := [_]) 3 hO dX4_charger_61 o_X1_powerOf v_X1_powerOf l_X4_168 ⟨by decide, by decide⟩ (by first | (simp only [gK_wI]; assumption) | assumption) ⟨by decide, by decide⟩ rfl ⟨by decide, by decide⟩ rfl rfl (Nat.le_of_ble_eq_true rfl) (s_powerOf hO hNow vN hW hc ?_)
        dsimp only [Option.toList, List.cons_append, List.nil_append]
        refine x_iret dX4_charger_64 rfl rfl ?_
        exact hq rfl C hR Fr_refl
      · refine x_lookup (off := 37) (tgt := 65) dX4_charger_28 rfl (by decide +kernel) (by decide) ?_
        refine x_aload_n dX4_charger_65 rfl ?_
        refine x_get 6 hO dX4_charger_66 f_X4_19 (by first | (simp only [gK_wI]; assumption) | assumption) ⟨by decide, by decide⟩ (v := .ref (x + 4)) (congrArg va_rf g1) ?_
        refine x_iload_n dX4_charger_69 rfl ?_
        refine x_callV (As := [_]) 3 hO dX4_charger_70 o_X1_placeOf v_X1_placeOf l_X4_171 ⟨by decide, by decide⟩ (by first | (simp only [gK_wI]; assumption) | assumption) ⟨by decide, by decide⟩ rfl ⟨by decide, by decide⟩ rfl rfl (Nat.le_of_ble_eq_true rfl) (s_placeOf hO hNow vN hW (by omega) (fun j hj hjc hjn => ?_) (fun hn => ?_))
        · dsimp only [Option.toList, List.cons_append, List.nil_append]
          refine x_iret dX4_charger_73 rfl rfl ?_
          rw [show chV ρ c 1 = nI j from congrArg nI (plc_eq (by rw [(ordL_ok hW).1]; exact hj) hjc hjn)] at hq
          exact hq rfl C hR Fr_refl
        · obtain ⟨i, hi, hie⟩ := List.mem_iff_getElem.mp ((ordL_ok hW).2.2 c hc)
          rw [(ordL_ok hW).1] at hi
          refine absurd ?_ (hn i hi)
          rw [List.getD_eq_getElem?_getD, List.getElem?_eq_getElem (by rw [(ordL_ok hW).1]; exact hi)]
          exact hie
      · refine x_lookup (off := 46) (tgt := 74) dX4_charger_28 rfl (by decide +kernel) (by decide) ?_
        refine x_aload_n dX4_charger_74 rfl ?_
        refine x_aload_n dX4_charger_75 rfl ?_
        refine x_get 6 hO dX4_charger_76 f_X4_19 (by first | (simp only [gK_wI]; assumption) | assumption) ⟨by decide, by decide⟩ (v := .ref (x + 4)) (congrArg va_rf g1) ?_
        refine x_callV (As := [_]) 6 hO dX4_charger_79 o_X4_previewOf v_X4_previewOf l_X4_144 ⟨by decide, by decide⟩ (by first | (simp only [gK_wI]; assumption) | assumption) ⟨by decide, by decide⟩ rfl ⟨by decide, by decide⟩ rfl rfl (Nat.le_of_ble_eq_true rfl) (s_previewOf hO hK g6 hPr hNow vN ok1 (by omega) (by omega) (fun f hf1 hf2 hf3 => ?_))
        dsimp only [Option.toList, List.cons_append, List.nil_append]
        have hm1 := (Wf_mved hW).2
        have hm2 : mved ρ 2 = ρ 2 := mved_2 hW
        have hRf := RX_tr hR (f := f) fun a ha => hf3 a (by omega)
        have hFf : Fr C (wI C f) x 255 := Fr_wI fun a ha => hf3 a (by omega)
        have hWm := (Wf_mved hW).1
        have hinv := lay_inv hWm (Nat.le_refl (mved ρ 2))
        refine x_iload_n dX4_charger_82 rfl ?_
        refine x_callV (As := [_]) 3 hO dX4_charger_83 o_X1_busAtCharger v_X1_busAtCharger l_X4_174 ⟨by decide, by decide⟩ (by first | (simp only [gK_wI]; assumption) | assumption) ⟨by decide, by decide⟩ rfl ⟨by decide, by decide⟩ rfl rfl (Nat.le_of_ble_eq_true rfl) (s_busAtCharger (C := wI C f) hO hPr hf1 hWm hf2 (fun b _ c9 h9 => by have := pl_lt hWm.2.1 (Nat.le_refl (mved ρ 2)) b c9 h9; omega) (by omega) (fun j hj hjc hjn => ?_) (fun hn => ?_))
        · dsimp only [Option.toList, List.cons_append, List.nil_append]
          rw [show chV ρ c 2 = nI j from congrArg enc (hinv.1 j c hjc).1] at hq
          refine x_iret dX4_charger_86 rfl rfl ?_
          exact hq rfl _ hRf hFf
        · dsimp only [Option.toList, List.cons_append, List.nil_append]
          have e9 : (pvw ρ).2.2.2.2 c = none := by
            cases e : (pvw ρ).2.2.2.2 c with
            | none => rfl
            | some b => exact absurd (hinv.2 c b e).1 (hn b (hinv.2 c b e).2.1)
          rw [show chV ρ c 2 = -1 from congrArg enc e9] at hq
          refine x_iret dX4_charger_86 rfl rfl ?_
          exact hq rfl _ hRf hFf
    · rw [if_neg h5] at hx2
      exact fun z hz => hx2 rfl _ (RX_wZ hR hz) (Fr_wZ hz)
  · have p5 := (ite01 hr5).1 c8
    refine x_throwS (names := nmsX) hO hX.1 dX4_charger_11 dX4_charger_14 dX4_charger_15 dX4_charger_17 dX4_charger_20 fit_167 nms_fit q_X4_163 ini_IndexOutOfBoundsException (hX.2.1 12 _ _ _ rfl) g1_167 dcl g2_167 (dcl_ok hO) (gd_167 _) (Nat.le_of_ble_eq_true rfl) ⟨by decide, by decide⟩ ⟨by decide, by decide⟩ ?_
    have eA : aCharger (S, n, ρ, L, K) c w = (1, 0, (S, n, ρ, L, K)) := if_neg p5
    rw [eA] at hx1
    exact fun z hz => hx1 rfl _ (RX_wZ hR hz) (Fr_wZ hz)

