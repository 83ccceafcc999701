/-! what would be *)-/
theorem lv1_5 {ρ : Rw} {b : Nat} : ρ 5 ≤ lv1 b ρ 5 := by
  unfold lv1
  split
  · split
    · unfold miss
      rw [uN_n (by decide), uN_s]
      omega
    · unfold goes
      split
      · rw [uN_n (by simp only [bi]; omega), uN_n (by simp only [bi]; omega), uN_n (by simp only [bi]; omega), uN_n (by simp only [bi]; omega), uN_n (by decide)]
        exact Nat.le_refl _
      · rw [uN_n (by simp only [bi]; omega), uN_n (by simp only [bi]; omega), uN_n (by simp only [bi]; omega), uN_n (by decide)]
        exact Nat.le_refl _
  · exact Nat.le_refl _
theorem mved_5 {ρ : Rw} : ρ 5 ≤ mved ρ 5 := by
  have h : back ρ 5 = ρ 5 := back_o fun b hb => by simp only [bi]; omega
  rw [← h]
  exact itB_ind (ρ := back ρ) (fun _ σ => back ρ 5 ≤ σ 5) (Nat.le_refl _) fun b σ _ hI => Nat.le_trans hI lv1_5
theorem hour1_5 {ρ : Rw} : ρ 5 ≤ hour1 ρ 5 := by
  rw [hour1_o (by decide) (fun b hb => by simp only [bi]; omega) (by decide) (by decide)]
  exact mved_5
theorem runN_5 {ρ : Rw} {k m : Nat} (h : k ≤ m) : runN k ρ 5 ≤ runN m ρ 5 := by
  induction m with
  | zero =>
    have : k = 0 := by omega
    subst this
    exact Nat.le_refl _
  | succ m ih =>
    by_cases e : k = m + 1
    · subst e; exact Nat.le_refl _
    · exact Nat.le_trans (ih (by omega)) hour1_5
abbrev msd (ρ : Rw) (j : Nat) : Prop := (ρ (bi j 6) = 0 ∧ ρ (bi j 3) = ρ 0 % 24) ∧ ρ (bi j 1) < ρ (bi j 2)
def fmS (j : Nat) : Nat → Rw → Int32
  | 0, _ => -1
  | k + 1, ρ => if msd ρ j then nI (ρ 0) else fmS j k (hour1 ρ)
abbrev wd (ρ : Rw) (l m : Nat) : Prop := runN m (stS ρ 0 l) 5 = ρ 5
def llS (ρ : Rw) (m : Nat) : Nat → Nat → Int32
  | 0, _ => -1
  | f + 1, i => if wd ρ (10 * i) m then nI (10 * i) else llS ρ m f (i + 1)
def cst (ρ : Rw) (m i : Nat) : Int32 := nI (runN m (stS ρ 5 i) 3) - nI (ρ 3)
def bsS (c : Nat → Int32) : Nat → Nat × Int32
  | 0 => (0, c 0)
  | k + 1 => if c (k + 1) < (bsS c k).2 then (k + 1, c (k + 1)) else bsS c k
def aComing (s : St) (m w : Int32) : An := if nI 1 ≤ m ∧ m ≤ nI 72 then (if nI 0 ≤ w ∧ w ≤ nI 3 then (0, nI (runN m.toNatClampNeg s.2.2.1 (3 + w.toNatClampNeg)) - nI (s.2.2.1 (3 + w.toNatClampNeg)), s) else (1, 0, s)) else (1, 0, s)
def aFirst (s : St) (b : Int32) : An := if isB s.2.2.1 b then (0, fmS b.toNatClampNeg 72 s.2.2.1, s) else (1, 0, s)
def aLeast (s : St) (m : Int32) : An := if nI 1 ≤ m ∧ m ≤ nI 72 then (0, llS s.2.2.1 m.toNatClampNeg 26 0, s) else (1, 0, s)
def aBest (s : St) (m : Int32) : An := if nI 1 ≤ m ∧ m ≤ nI 72 then (0, nI (bsS (cst s.2.2.1 m.toNatClampNeg) 23).1, s) else (1, 0, s)
def aIfP (s : St) (p m : Int32) : An := if nI 1 ≤ p ∧ p ≤ nI 50 then (if nI 1 ≤ m ∧ m ≤ nI 72 then (if s.2.2.1 2 = 5 then (2, 0, s) else (0, nI (runN m.toNatClampNeg (addC s.2.2.1 p.toNatClampNeg) 5) - nI (s.2.2.1 5), s)) else (1, 0, s)) else (1, 0, s)

theorem t_coming {G : GT} {C : AH} {Q : QT} {X : XT} {sa va : Nat → Nat} {x T n : Nat} {S : Nat → Nat} {ρ : Rw} {L : List Rw} {K : Nat → Option Rw} {m w : Int32} (hO : GO G) (hX : GX G sa va) (hT : T ≤ 40000) (hR : RX T C x (S, n, ρ, L, K)) (hq : (aComing (S, n, ρ, L, K) m w).1 = 0 → ∀ C' : AH, RX (T) C' x (aComing (S, n, ρ, L, K) m w).2.2 → Fr C C' x 255 → Q (some (.int (aComing (S, n, ρ, L, K) m w).2.1)) C') (hx1 : (aComing (S, n, ρ, L, K) m w).1 = 1 → ∀ C' : AH, RX (T) C' x (aComing (S, n, ρ, L, K) m w).2.2 → Fr C C' x 255 → X "java/lang/IllegalArgumentException" C') : Mt G M_X4_coming [.ref x, .int m, .int w] C Q X := by
  refine Mt_of (by decide) (Nat.le_of_ble_eq_true rfl) ?_
  obtain ⟨hk, π, hs, hv⟩ := id hR
  obtain ⟨hK, ⟨g0, g1, g2, g3, g4, g5, g6⟩, hTx, hNow, hHi, ⟨ks, ns, es⟩, ⟨kf, nf⟩, hTr, hPr, hSl, hgz⟩ := id hs
  have kTx := hTx.1
  have kNow := hNow.1
  have kHi := hHi.1
  have kTr := hTr.1
  have kPr := hPr.1
  obtain ⟨vT, vN, vH, vS⟩ : TxV (gI C) (x + 1) S n ∧ VaD (gI C) (x + 4) ρ ∧ HiV (gI C) (x + 17) π L ∧ SlV (gI C) x K := hv
  obtain ⟨ok1, ok2, ok3, ok4, ok5, ok6⟩ : Ok T ρ ∧ (∀ σ, σ ∈ L → Ok T σ) ∧ (∀ i σ, K i = some σ → Ok T σ) ∧ n ≤ 120 ∧ (∀ i, i < n → S i < 256) ∧ L.length ≤ 14 := hk
  obtain ⟨hW, hB⟩ := id ok1
  obtain ⟨b0, b3, b4, b5, b6, b7⟩ := id hB
  obtain ⟨w1, w2, w7, w8, w9, w10, w11, w11', w12, wB, wP⟩ := id hW
  obtain ⟨s0, s1, s2, s3, v4, v5, v6, v7, v8, v9, v10⟩ := SkD_f hNow vN
  refine x_iload_n dX4_coming_0 rfl ?_
  refine x_iconst (v := nI 1) dX4_coming_1 (by decide) ?_
  refine x_bipush (v := nI 72) dX4_coming_2 (by decide) ?_
  refine x_callS (As := [_, _, _]) hO dX4_coming_4 o_X4_requireWithin s_X4_requireWithin l_X4_44 ⟨by decide, by decide⟩ ⟨by decide, by decide⟩ rfl rfl (Nat.le_of_ble_eq_true rfl) (s_requireWithin hO hX (fun h5 => ?_) (fun h5 => ?_))
  · dsimp only [Option.toList, List.cons_append, List.nil_append]
    obtain ⟨m, hk0, hk9, rfl⟩ := (rng (by decide) (by decide)).mp h5
    have eA : aComing (S, n, ρ, L, K) (nI m) w = (if nI 0 ≤ w ∧ w ≤ nI 3 then (0, nI (runN m ρ (3 + w.toNatClampNeg)) - nI (ρ (3 + w.toNatClampNeg)), (S, n, ρ, L, K)) else (1, 0, (S, n, ρ, L, K))) := by
      unfold aComing
      rw [if_pos h5, nI_clamp (show m < 2 ^ 31 by omega)]
    rw [eA] at hq hx1
    refine x_iload_n dX4_coming_7 rfl ?_
    refine x_iconst (v := nI 0) dX4_coming_8 (by decide) ?_
    refine x_iconst (v := nI 3) dX4_coming_9 (by decide) ?_
    refine x_callS (As := [_, _, _]) hO dX4_coming_10 o_X4_requireWithin s_X4_requireWithin l_X4_44 ⟨by decide, by decide⟩ ⟨by decide, by decide⟩ rfl rfl (Nat.le_of_ble_eq_true rfl) (s_requireWithin hO hX (fun h6 => ?_) (fun h6 => ?_))
    · dsimp only [Option.toList, List.cons_append, List.nil_append]
      rw [if_pos h6] at hq
      refine x_aload_n dX4_coming_13 rfl ?_
      refine x_get 6 hO dX4_coming_14 f_X4_38 (by first | (simp only [gK_wI]; assumption) | assumption) ⟨by decide, by decide⟩ (v := .ref (x + 203)) (congrArg va_rf g5) ?_
      refine x_aload_n dX4_coming_17 rfl ?_
      refine x_get 6 hO dX4_coming_18 f_X4_19 (by first | (simp only [gK_wI]; assumption) | assumption) ⟨by decide, by decide⟩ (v := .ref (x + 4)) (congrArg va_rf g1) ?_
      refine x_callV (As := [_]) 3 hO dX4_coming_21 o_X1_becomeLike v_X1_becomeLike l_X4_261 ⟨by decide, by decide⟩ (by first | (simp only [gK_wI]; assumption) | assumption) ⟨by decide, by decide⟩ rfl ⟨by decide, by decide⟩ rfl rfl (Nat.le_of_ble_eq_true rfl) (s_becomeLike hO hTr hNow vN hW (by omega) (fun f p1 p2 => ?_))
      dsimp only [Option.toList, List.cons_append, List.nil_append]
      refine x_aload_n dX4_coming_24 rfl ?_
      refine x_get 6 hO dX4_coming_25 f_X4_38 (by first | (simp only [gK_wI]; assumption) | assumption) ⟨by decide, by decide⟩ (v := .ref (x + 203)) (congrArg va_rf g5) ?_
      refine x_iload_n dX4_coming_28 rfl ?_
      refine x_callV (As := [_]) 3 hO dX4_coming_29 o_X1_passHours v_X1_passHours l_X4_240 ⟨by decide, by decide⟩ (by first | (simp only [gK_wI]; assumption) | assumption) ⟨by decide, by decide⟩ rfl ⟨by decide, by decide⟩ rfl rfl (Nat.le_of_ble_eq_true rfl) (s_passHours (C := wI C f) hO hTr p1 hW hB (by omega) (fun g q1 q2 => ?_))
      dsimp only [Option.toList, List.cons_append, List.nil_append]
      obtain ⟨k, hj0, hj9, rfl⟩ := (rng (by decide) (by decide)).mp h6
      rw [nI_clamp (show k < 2 ^ 31 by omega)] at hq
      have hfr : ∀ a : Nat, (a < x + 203 ∨ x + 216 ≤ a) → g a = gI C a := fun a ha => (q2 a (by omega)).trans (p2 a (by omega))
      simp only [wI_wI]
      refine x_iload_n dX4_coming_32 rfl ?_
      rcases (show k = 0 ∨ k = 1 ∨ k = 2 ∨ k = 3 by omega) with rfl | rfl | rfl | rfl
      · refine x_tableIn (off := 27) (tgt := 60) dX4_coming_33 (by decide +kernel) (by decide +kernel) (by decide +kernel) (by decide) ?_
        refine x_aload_n dX4_coming_60 rfl ?_
        refine x_get 6 hO dX4_coming_61 f_X4_38 (by first | (simp only [gK_wI]; assumption) | assumption) ⟨by decide, by decide⟩ (v := .ref (x + 203)) (congrArg va_rf g5) ?_
        refine x_get 3 hO dX4_coming_64 f_X4_92 (by first | (simp only [gK_wI]; assumption) | assumption) ⟨by decide, by decide⟩ (v := .int (nI (runN m ρ 3))) (congrArg Value.int q1.2.2.2.1) ?_
        refine x_aload_n dX4_coming_67 rfl ?_
        refine x_get 6 hO dX4_coming_68 f_X4_19 (by first | (simp only [gK_wI]; assumption) | assumption) ⟨by decide, by decide⟩ (v := .ref (x + 4)) (congrArg va_rf g1) ?_
        refine x_get 3 hO dX4_coming_71 f_X4_92 (by first | (simp only [gK_wI]; assumption) | assumption) ⟨by decide, by decide⟩ (v := .int (nI (ρ 3))) (congrArg Value.int ((congrFun (hfr (x + 4) (by omega)) 7).trans vN.2.2.2.1)) ?_
        refine x_isub dX4_coming_74 ?_
        refine x_iret dX4_coming_75 rfl rfl ?_
        try simp only [wI_wI]
        exact hq rfl _ (RX_tr hR fun a ha => hfr a (by omega)) (Fr_wI fun a ha => hfr a (by omega))
      · refine x_tableIn (off := 43) (tgt := 76) dX4_coming_33 (by decide +kernel) (by decide +kernel) (by decide +kernel) (by decide) ?_
        refine x_aload_n dX4_coming_76 rfl ?_
        refine x_get 6 hO dX4_coming_77 f_X4_38 (by first | (simp only [gK_wI]; assumption) | assumption) ⟨by decide, by decide⟩ (v := .ref (x + 203)) (congrArg va_rf g5) ?_
        refine x_get 3 hO dX4_coming_80 f_X4_95 (by first | (simp only [gK_wI]; assumption) | assumption) ⟨by decide, by decide⟩ (v := .int (nI (runN m ρ 4))) (congrArg Value.int q1.2.2.2.2.1) ?_
        refine x_aload_n dX4_coming_83 rfl ?_
        refine x_get 6 hO dX4_coming_84 f_X4_19 (by first | (simp only [gK_wI]; assumption) | assumption) ⟨by decide, by decide⟩ (v := .ref (x + 4)) (congrArg va_rf g1) ?_
        refine x_get 3 hO dX4_coming_87 f_X4_95 (by first | (simp only [gK_wI]; assumption) | assumption) ⟨by decide, by decide⟩ (v := .int (nI (ρ 4))) (congrArg Value.int ((congrFun (hfr (x + 4) (by omega)) 8).trans vN.2.2.2.2.1)) ?_
        refine x_isub dX4_coming_90 ?_
        refine x_iret dX4_coming_91 rfl rfl ?_
        try simp only [wI_wI]
        exact hq rfl _ (RX_tr hR fun a ha => hfr a (by omega)) (Fr_wI fun a ha => hfr a (by omega))
      · refine x_tableIn (off := 59) (tgt := 92) dX4_coming_33 (by decide +kernel) (by decide +kernel) (by decide +kernel) (by decide) ?_
        refine x_aload_n dX4_coming_92 rfl ?_
        refine x_get 6 hO dX4_coming_93 f_X4_38 (by first | (simp only [gK_wI]; assumption) | assumption) ⟨by decide, by decide⟩ (v := .ref (x + 203)) (congrArg va_rf g5) ?_
        refine x_get 3 hO dX4_coming_96 f_X4_98 (by first | (simp only [gK_wI]; assumption) | assumption) ⟨by decide, by decide⟩ (v := .int (nI (runN m ρ 5))) (congrArg Value.int q1.2.2.2.2.2.1) ?_
        refine x_aload_n dX4_coming_99 rfl ?_
        refine x_get 6 hO dX4_coming_100 f_X4_19 (by first | (simp only [gK_wI]; assumption) | assumption) ⟨by decide, by decide⟩ (v := .ref (x + 4)) (congrArg va_rf g1) ?_
        refine x_get 3 hO dX4_coming_103 f_X4_98 (by first | (simp only [gK_wI]; assumption) | assumption) ⟨by decide, by decide⟩ (v := .int (nI (ρ 5))) (congrArg Value.int ((congrFun (hfr (x + 4) (by omega)) 9).trans vN.2.2.2.2.2.1)) ?_
        refine x_isub dX4_coming_106 ?_
        refine x_iret dX4_coming_107 rfl rfl ?_
        try simp only [wI_wI]
        exact hq rfl _ (RX_tr hR fun a ha => hfr a (by omega)) (Fr_wI fun a ha => hfr a (by omega))
      · refine x_tableOut (tgt := 108) dX4_coming_33 (by decide +kernel) (by decide) ?_
        refine x_aload_n dX4_coming_108 rfl ?_
        refine x_get 6 hO dX4_coming_109 f_X4_38 (by first | (simp only [gK_wI]; assumption) | assumption) ⟨by decide, by decide⟩ (v := .ref (x + 203)) (congrArg va_rf g5) ?_
        refine x_get 3 hO dX4_coming_112 f_X4_101 (by first | (simp only [gK_wI]; assumption) | assumption) ⟨by decide, by decide⟩ (v := .int (nI (runN m ρ 6))) (congrArg Value.int q1.2.2.2.2.2.2.1) ?_
        refine x_aload_n dX4_coming_115 rfl ?_
        refine x_get 6 hO dX4_coming_116 f_X4_19 (by first | (simp only [gK_wI]; assumption) | assumption) ⟨by decide, by decide⟩ (v := .ref (x + 4)) (congrArg va_rf g1) ?_
        refine x_get 3 hO dX4_coming_119 f_X4_101 (by first | (simp only [gK_wI]; assumption) | assumption) ⟨by decide, by decide⟩ (v := .int (nI (ρ 6))) (congrArg Value.int ((congrFun (hfr (x + 4) (by omega)) 10).trans vN.2.2.2.2.2.2.1)) ?_
        refine x_isub dX4_coming_122 ?_
        refine x_iret dX4_coming_123 rfl rfl ?_
        try simp only [wI_wI]
        exact hq rfl _ (RX_tr hR fun a ha => hfr a (by omega)) (Fr_wI fun a ha => hfr a (by omega))
    · rw [if_neg h6] at hx1
      exact fun z hz => hx1 rfl _ (RX_wZ hR hz) (Fr_wZ hz)
  · have eA : aComing (S, n, ρ, L, K) m w = (1, 0, (S, n, ρ, L, K)) := if_neg h5
    rw [eA] at hx1
    exact fun z hz => hx1 rfl _ (RX_wZ hR hz) (Fr_wZ hz)

theorem t_ifPlugged {G : GT} {C : AH} {Q : QT} {X : XT} {sa va : Nat → Nat} {x T n : Nat} {S : Nat → Nat} {ρ : Rw} {L : List Rw} {K : Nat → Option Rw} {p m : Int32} (hO : GO G) (hX : GX G sa va) (hT : T ≤ 40000) (hR : RX T C x (S, n, ρ, L, K)) (hq : (aIfP (S, n, ρ, L, K) p m).1 = 0 → ∀ C' : AH, RX (T) C' x (aIfP (S, n, ρ, L, K) p m).2.2 → Fr C C' x 255 → Q (some (.int (aIfP (S, n, ρ, L, K) p m).2.1)) C') (hx1 : (aIfP (S, n, ρ, L, K) p m).1 = 1 → ∀ C' : AH, RX (T) C' x (aIfP (S, n, ρ, L, K) p m).2.2 → Fr C C' x 255 → X "java/lang/IllegalArgumentException" C') (hx2 : (aIfP (S, n, ρ, L, K) p m).1 = 2 → ∀ C' : AH, RX (T) C' x (aIfP (S, n, ρ, L, K) p m).2.2 → Fr C C' x 255 → X "java/lang/IllegalStateException" C') : Mt G M_X4_ifPlugged [.ref x, .int p, .int m] C Q X := by
  refine Mt_of (by decide) (Nat.le_of_ble_eq_true rfl) ?_
  obtain ⟨hk, π, hs, hv⟩ := id hR
  obtain ⟨hK, ⟨g0, g1, g2, g3, g4, g5, g6⟩, hTx, hNow, hHi, ⟨ks, ns, es⟩, ⟨kf, nf⟩, hTr, hPr, hSl, hgz⟩ := id hs
  have kTx := hTx.1
  have kNow := hNow.1
  have kHi := hHi.1
  have kTr := hTr.1
  have kPr := hPr.1
  obtain ⟨vT, vN, vH, vS⟩ : TxV (gI C) (x + 1) S n ∧ VaD (gI C) (x + 4) ρ ∧ HiV (gI C) (x + 17) π L ∧ SlV (gI C) x K := hv
  obtain ⟨ok1, ok2, ok3, ok4, ok5, ok6⟩ : Ok T ρ ∧ (∀ σ, σ ∈ L → Ok T σ) ∧ (∀ i σ, K i = some σ → Ok T σ) ∧ n ≤ 120 ∧ (∀ i, i < n → S i < 256) ∧ L.length ≤ 14 := hk
  obtain ⟨hW, hB⟩ := id ok1
  obtain ⟨b0, b3, b4, b5, b6, b7⟩ := id hB
  obtain ⟨w1, w2, w7, w8, w9, w10, w11, w11', w12, wB, wP⟩ := id hW
  obtain ⟨s0, s1, s2, s3, v4, v5, v6, v7, v8, v9, v10⟩ := SkD_f hNow vN
  refine x_iload_n dX4_ifPlugged_0 rfl ?_
  refine x_iconst (v := nI 1) dX4_ifPlugged_1 (by decide) ?_
  refine x_bipush (v := nI 50) dX4_ifPlugged_2 (by decide) ?_
  refine x_callS (As := [_, _, _]) hO dX4_ifPlugged_4 o_X4_requireWithin s_X4_requireWithin l_X4_44 ⟨by decide, by decide⟩ ⟨by decide, by decide⟩ rfl rfl (Nat.le_of_ble_eq_true rfl) (s_requireWithin hO hX (fun h5 => ?_) (fun h5 => ?_))
  · dsimp only [Option.toList, List.cons_append, List.nil_append]
    obtain ⟨k, hk0, hk9, rfl⟩ := (rng (by decide) (by decide)).mp h5
    have eA : aIfP (S, n, ρ, L, K) (nI k) m = (if nI 1 ≤ m ∧ m ≤ nI 72 then (if ρ 2 = 5 then (2, 0, (S, n, ρ, L, K)) else (0, nI (runN m.toNatClampNeg (addC ρ k) 5) - nI (ρ 5), (S, n, ρ, L, K))) else (1, 0, (S, n, ρ, L, K))) := by
      unfold aIfP
      rw [if_pos h5, nI_clamp (show k < 2 ^ 31 by omega)]
    rw [eA] at hq hx1 hx2
    refine x_iload_n dX4_ifPlugged_7 rfl ?_
    refine x_iconst (v := nI 1) dX4_ifPlugged_8 (by decide) ?_
    refine x_bipush (v := nI 72) dX4_ifPlugged_9 (by decide) ?_
    refine x_callS (As := [_, _, _]) hO dX4_ifPlugged_11 o_X4_requireWithin s_X4_requireWithin l_X4_44 ⟨by decide, by decide⟩ ⟨by decide, by decide⟩ rfl rfl (Nat.le_of_ble_eq_true rfl) (s_requireWithin hO hX (fun h6 => ?_) (fun h6 => ?_))
    · dsimp only [Option.toList, List.cons_append, List.nil_append]
      obtain ⟨m, hj0, hj9, rfl⟩ := (rng (by decide) (by decide)).mp h6
      rw [if_pos h6, nI_clamp (show m < 2 ^ 31 by omega)] at hq hx2
      refine x_aload_n dX4_ifPlugged_14 rfl ?_
      refine x_callV (As := []) 6 hO dX4_ifPlugged_15 o_X4_requireRoomForCharger v_X4_requireRoomForCharger l_X4_217 ⟨by decide, by decide⟩ (by first | (simp only [gK_wI]; assumption) | assumption) ⟨by decide, by decide⟩ rfl ⟨by decide, by decide⟩ rfl rfl (Nat.le_of_ble_eq_true rfl) (t_requireRoom hO hX hT hR (fun h7 => ?_) (fun h7 => ?_))
      · dsimp only [Option.toList, List.cons_append, List.nil_append]
        rw [if_neg (by omega)] at hq
        refine x_aload_n dX4_ifPlugged_18 rfl ?_
        refine x_get 6 hO dX4_ifPlugged_19 f_X4_38 (by first | (simp only [gK_wI]; assumption) | assumption) ⟨by decide, by decide⟩ (v := .ref (x + 203)) (congrArg va_rf g5) ?_
        refine x_aload_n dX4_ifPlugged_22 rfl ?_
        refine x_get 6 hO dX4_ifPlugged_23 f_X4_19 (by first | (simp only [gK_wI]; assumption) | assumption) ⟨by decide, by decide⟩ (v := .ref (x + 4)) (congrArg va_rf g1) ?_
        refine x_callV (As := [_]) 3 hO dX4_ifPlugged_26 o_X1_becomeLike v_X1_becomeLike l_X4_261 ⟨by decide, by decide⟩ (by first | (simp only [gK_wI]; assumption) | assumption) ⟨by decide, by decide⟩ rfl ⟨by decide, by decide⟩ rfl rfl (Nat.le_of_ble_eq_true rfl) (s_becomeLike hO hTr hNow vN hW (by omega) (fun f p1 p2 => ?_))
        dsimp only [Option.toList, List.cons_append, List.nil_append]
        refine x_aload_n dX4_ifPlugged_29 rfl ?_
        refine x_get 6 hO dX4_ifPlugged_30 f_X4_38 (by first | (simp only [gK_wI]; assumption) | assumption) ⟨by decide, by decide⟩ (v := .ref (x + 203)) (congrArg va_rf g5) ?_
        refine x_iload_n dX4_ifPlugged_33 rfl ?_
        refine x_callV (As := [_]) 3 hO dX4_ifPlugged_34 o_X1_putCharger v_X1_putCharger l_X4_220 ⟨by decide, by decide⟩ (by first | (simp only [gK_wI]; assumption) | assumption) ⟨by decide, by decide⟩ rfl ⟨by decide, by decide⟩ rfl rfl (Nat.le_of_ble_eq_true rfl) (s_putCharger (C := wI C f) hO hTr p1 hW hk0 hk9 (fun h8 f2 t1 t2 => ?_) (fun h8 => absurd h8 (by omega)))
        dsimp only [Option.toList, List.cons_append, List.nil_append]
        refine x_pop dX4_ifPlugged_37 rfl ?_
        have okc := Ok_addC ok1 hk0 hk9 h8
        simp only [wI_wI]
        refine x_aload_n dX4_ifPlugged_38 rfl ?_
        refine x_get 6 hO dX4_ifPlugged_39 f_X4_38 (by first | (simp only [gK_wI]; assumption) | assumption) ⟨by decide, by decide⟩ (v := .ref (x + 203)) (congrArg va_rf g5) ?_
        refine x_iload_n dX4_ifPlugged_42 rfl ?_
        refine x_callV (As := [_]) 3 hO dX4_ifPlugged_43 o_X1_passHours v_X1_passHours l_X4_240 ⟨by decide, by decide⟩ (by first | (simp only [gK_wI]; assumption) | assumption) ⟨by decide, by decide⟩ rfl ⟨by decide, by decide⟩ rfl rfl (Nat.le_of_ble_eq_true rfl) (s_passHours (C := wI C f2) hO hTr t1 okc.1 okc.2 (by omega) (fun g q1 q2 => ?_))
        dsimp only [Option.toList, List.cons_append, List.nil_append]
        have hfr : ∀ a : Nat, (a < x + 203 ∨ x + 216 ≤ a) → g a = gI C a := fun a ha => ((q2 a (by omega)).trans (t2 a (by omega))).trans (p2 a (by omega))
        refine x_aload_n dX4_ifPlugged_46 rfl ?_
        refine x_get 6 hO dX4_ifPlugged_47 f_X4_38 (by first | (simp only [gK_wI]; assumption) | assumption) ⟨by decide, by decide⟩ (v := .ref (x + 203)) (congrArg va_rf g5) ?_
        refine x_get 3 hO dX4_ifPlugged_50 f_X4_98 (by first | (simp only [gK_wI]; assumption) | assumption) ⟨by decide, by decide⟩ (v := .int (nI (runN m (addC ρ k) 5))) (congrArg Value.int q1.2.2.2.2.2.1) ?_
        refine x_aload_n dX4_ifPlugged_53 rfl ?_
        refine x_get 6 hO dX4_ifPlugged_54 f_X4_19 (by first | (simp only [gK_wI]; assumption) | assumption) ⟨by decide, by decide⟩ (v := .ref (x + 4)) (congrArg va_rf g1) ?_
        refine x_get 3 hO dX4_ifPlugged_57 f_X4_98 (by first | (simp only [gK_wI]; assumption) | assumption) ⟨by decide, by decide⟩ (v := .int (nI (ρ 5))) (congrArg Value.int ((congrFun (hfr (x + 4) (by omega)) 9).trans vN.2.2.2.2.2.1)) ?_
        refine x_isub dX4_ifPlugged_60 ?_
        refine x_iret dX4_ifPlugged_61 rfl rfl ?_
        try simp only [wI_wI]
        exact hq rfl _ (RX_tr hR fun a ha => hfr a (by omega)) (Fr_wI fun a ha => hfr a (by omega))
      · rw [if_pos h7] at hx2
        exact fun z hz => hx2 rfl _ (RX_wZ hR hz) (Fr_wZ hz)
    · rw [if_neg h6] at hx1
      exact fun z hz => hx1 rfl _ (RX_wZ hR hz) (Fr_wZ hz)
  · have eA : aIfP (S, n, ρ, L, K) p m = (1, 0, (S, n, ρ, L, K)) := if_neg h5
    rw [eA] at hx1
    exact fun z hz => hx1 rfl _ (RX_wZ hR hz) (Fr_wZ hz)

theorem s_wouldDo {G : GT} {C : AH} {Q : QT} {X : XT} {sa va : Nat → Nat} {x T n : Nat} {S : Nat → Nat} {ρ : Rw} {L : List Rw} {K : Nat → Option Rw} {C0 : AH} {f0 : Nat → Nat → Int32} {l m : Nat} (hC : C = wI C0 f0) (hf0 : ∀ a : Nat, (a < x + 203 ∨ x + 216 ≤ a) → f0 a = gI C0 a) (hO : GO G) (hX : GX G sa va) (hT : T ≤ 40000) (hR : RX T C0 x (S, n, ρ, L, K)) (hl : l ≤ 250) (hm : m ≤ 72) (hq : ∀ (r : Int32) (g : Nat → Nat → Int32), r = (if wd ρ l m then 1 else 0) → (∀ a : Nat, (a < x + 203 ∨ x + 216 ≤ a) → g a = gI C0 a) → Q (some (.int r)) (wI C0 g)) : Mt G M_X4_wouldDo [.ref x, .int (nI l), .int (nI m)] C Q X := by
  subst hC
  refine Mt_of (by decide) (Nat.le_of_ble_eq_true rfl) ?_
  obtain ⟨hk, π, hs, hv⟩ := id hR
  obtain ⟨hK, ⟨g0, g1, g2, g3, g4, g5, g6⟩, hTx, hNow, hHi, ⟨ks, ns, es⟩, ⟨kf, nf⟩, hTr, hPr, hSl, hgz⟩ := id hs
  have kTx := hTx.1
  have kNow := hNow.1
  have kHi := hHi.1
  have kTr := hTr.1
  have kPr := hPr.1
  obtain ⟨vT, vN, vH, vS⟩ : TxV (gI C0) (x + 1) S n ∧ VaD (gI C0) (x + 4) ρ ∧ HiV (gI C0) (x + 17) π L ∧ SlV (gI C0) x K := hv
  obtain ⟨ok1, ok2, ok3, ok4, ok5, ok6⟩ : Ok T ρ ∧ (∀ σ, σ ∈ L → Ok T σ) ∧ (∀ i σ, K i = some σ → Ok T σ) ∧ n ≤ 120 ∧ (∀ i, i < n → S i < 256) ∧ L.length ≤ 14 := hk
  obtain ⟨hW, hB⟩ := id ok1
  obtain ⟨b0, b3, b4, b5, b6, b7⟩ := id hB
  obtain ⟨w1, w2, w7, w8, w9, w10, w11, w11', w12, wB, wP⟩ := id hW
  obtain ⟨s0, s1, s2, s3, v4, v5, v6, v7, v8, v9, v10⟩ := SkD_f (C := C0) hNow vN
  have hks : okSN 0 l := ⟨by decide, Nat.zero_le _, hl⟩
  have okτ := Ok_stS ok1 hks
  have e5 : stS ρ 0 l 5 = ρ 5 := uN_n (by decide)
  have loop : ∀ (m9 i : Nat) (f : Nat → Nat → Int32), m - i = m9 → i ≤ m → VaD f (x + 203) (runN i (stS ρ 0 l)) → runN i (stS ρ 0 l) 5 = ρ 5 → (∀ a : Nat, (a < x + 203 ∨ x + 216 ≤ a) → f a = gI C0 a) → Ex G M_X4_wouldDo Q X (mC M_X4_wouldDo) (mS M_X4_wouldDo) 22 [(0, .ref x), (1, .int (nI l)), (2, .int (nI m)), (3, .int (nI i))] [] (wI C0 f) := by
    intro m9
    induction m9 using Nat.strongRecOn with
    | _ m9 ih =>
    intro i f hm9 him hVf h5e hf
    obtain ⟨hW2, hB2, -⟩ := runN_ok (n := i) okτ.1 okτ.2
    refine x_iload_n dX4_wouldDo_22 rfl ?_
    refine x_iload_n dX4_wouldDo_23 rfl ?_
    refine x_icmp_ge (tgt := 60) dX4_wouldDo_24 (by decide) (fun c24 => ?_) (fun c24 => ?_)
    · simp (disch := omega) only [nI_leI] at c24
      refine x_iconst (v := nI 1) dX4_wouldDo_60 (by decide) ?_
      refine x_iret dX4_wouldDo_61 rfl (by first | rfl | assumption) ?_
      have : i = m := by omega
      subst this
      exact hq 1 f (by rw [if_pos h5e]) hf
    · simp (disch := omega) only [nI_leI] at c24
      refine x_aload_n dX4_wouldDo_27 rfl ?_
      refine x_get 6 hO dX4_wouldDo_28 f_X4_38 (by first | (simp only [gK_wI]; assumption) | assumption) ⟨by decide, by decide⟩ (v := .ref (x + 203)) (congrArg va_rf g5) ?_
      refine x_iconst (v := nI 1) dX4_wouldDo_31 (by decide) ?_
      refine x_callV (As := [_]) 3 hO dX4_wouldDo_32 o_X1_passHours v_X1_passHours l_X4_240 ⟨by decide, by decide⟩ (by first | (simp only [gK_wI]; assumption) | assumption) ⟨by decide, by decide⟩ rfl ⟨by decide, by decide⟩ rfl rfl (Nat.le_of_ble_eq_true rfl) (s_passHours (C := wI C0 f) (n := 1) hO hTr hVf hW2 hB2 (by omega) (fun g2 h1 h2 => ?_))
      dsimp only [Option.toList, List.cons_append, List.nil_append]
      simp only [wI_wI]
      have hg2 : ∀ a : Nat, (a < x + 203 ∨ x + 216 ≤ a) → g2 a = gI C0 a := fun a ha => (h2 a (by omega)).trans (hf a ha)
      have hm1 : runN 1 (runN i (stS ρ 0 l)) 5 = runN (i + 1) (stS ρ 0 l) 5 := rfl
      obtain ⟨hW3, hB3, -⟩ := runN_ok (n := i + 1) okτ.1 okτ.2
      have h35 := hB3.2.2.2.1
      refine x_aload_n dX4_wouldDo_35 rfl ?_
      refine x_get 6 hO dX4_wouldDo_36 f_X4_38 (by first | (simp only [gK_wI]; assumption) | assumption) ⟨by decide, by decide⟩ (v := .ref (x + 203)) (congrArg va_rf g5) ?_
      refine x_get 3 hO dX4_wouldDo_39 f_X4_98 (by first | (simp only [gK_wI]; assumption) | assumption) ⟨by decide, by decide⟩ (v := .int (nI (runN (i + 1) (stS ρ 0 l) 5))) (congrArg Value.int h1.2.2.2.2.2.1) ?_
      refine x_aload_n dX4_wouldDo_42 rfl ?_
      refine x_get 6 hO dX4_wouldDo_43 f_X4_19 (by first | (simp only [gK_wI]; assumption) | assumption) ⟨by decide, by decide⟩ (v := .ref (x + 4)) (congrArg va_rf g1) ?_
      refine x_get 3 hO dX4_wouldDo_46 f_X4_98 (by first | (simp only [gK_wI]; assumption) | assumption) ⟨by decide, by decide⟩ (v := .int (nI (ρ 5))) (congrArg Value.int ((congrFun (hg2 (x + 4) (by omega)) 9).trans vN.2.2.2.2.2.1)) ?_
      refine x_icmp_eq (tgt := 54) dX4_wouldDo_49 (by decide) (fun c49 => ?_) (fun c49 => ?_)
      · have h49 := (nI_eq (by omega) (by omega)).mp c49
        refine x_iinc (v := nI 1) dX4_wouldDo_54 rfl (by decide) (by decide) ?_
        refine x_goto (tgt := 22) dX4_wouldDo_57 (by decide) ?_
        try simp only [wI_wI]
        refine x_ls [(0, .ref x), (1, .int (nI l)), (2, .int (nI m)), (3, .int (nI (i + 1)))] ⟨rfl, rfl, rfl, (by rw [← nI_add]; rfl), trivial⟩ ?_
        refine ih (m9 - 1) (by omega) (i + 1) g2 (by omega) (by omega) h1 h49 hg2
      · refine x_iconst (v := nI 0) dX4_wouldDo_52 (by decide) ?_
        refine x_iret dX4_wouldDo_53 rfl (by first | rfl | assumption) ?_
        have h49 : ¬ runN (i + 1) (stS ρ 0 l) 5 = ρ 5 := fun q => c49 (congrArg nI q)
        refine hq 0 g2 ?_ hg2
        rw [if_neg]
        intro q
        have a1 := runN_5 (ρ := stS ρ 0 l) (k := i + 1) (m := m) (by omega)
        have a2 := runN_5 (ρ := stS ρ 0 l) (k := 0) (m := i + 1) (by omega)
        have a3 : runN 0 (stS ρ 0 l) 5 = stS ρ 0 l 5 := rfl
        have q : runN m (stS ρ 0 l) 5 = ρ 5 := q
        omega
  refine x_aload_n dX4_wouldDo_0 rfl ?_
  refine x_get 6 hO dX4_wouldDo_1 f_X4_38 (by first | (simp only [gK_wI]; assumption) | assumption) ⟨by decide, by decide⟩ (v := .ref (x + 203)) (congrArg va_rf g5) ?_
  have hVn : VaD f0 (x + 4) ρ := VaD_in hW vN fun a h1 h2 => hf0 a (by omega)
  refine x_aload_n dX4_wouldDo_4 rfl ?_
  refine x_get 6 hO dX4_wouldDo_5 f_X4_19 (by first | (simp only [gK_wI]; assumption) | assumption) ⟨by decide, by decide⟩ (v := .ref (x + 4)) (congrArg va_rf g1) ?_
  refine x_callV (As := [_]) 3 hO dX4_wouldDo_8 o_X1_becomeLike v_X1_becomeLike l_X4_261 ⟨by decide, by decide⟩ (by first | (simp only [gK_wI]; assumption) | assumption) ⟨by decide, by decide⟩ rfl ⟨by decide, by decide⟩ rfl rfl (Nat.le_of_ble_eq_true rfl) (s_becomeLike (C := wI C0 f0) hO hTr hNow hVn hW (by omega) (fun f p1 p2 => ?_))
  dsimp only [Option.toList, List.cons_append, List.nil_append]
  simp only [wI_wI]
  refine x_aload_n dX4_wouldDo_11 rfl ?_
  refine x_get 6 hO dX4_wouldDo_12 f_X4_38 (by first | (simp only [gK_wI]; assumption) | assumption) ⟨by decide, by decide⟩ (v := .ref (x + 203)) (congrArg va_rf g5) ?_
  refine x_iconst (v := nI 0) dX4_wouldDo_15 (by decide) ?_
  refine x_iload_n dX4_wouldDo_16 rfl ?_
  refine x_callV (As := [_, _]) 3 hO dX4_wouldDo_17 o_X1_change v_X1_change l_X4_249 ⟨by decide, by decide⟩ (by first | (simp only [gK_wI]; assumption) | assumption) ⟨by decide, by decide⟩ rfl ⟨by decide, by decide⟩ rfl rfl (Nat.le_of_ble_eq_true rfl) (s_change (C := wI C0 f) hO hX hTr p1 hW hks (fun g q1 q2 => ?_))
  dsimp only [Option.toList, List.cons_append, List.nil_append]
  refine x_iconst (v := nI 0) dX4_wouldDo_20 (by decide) ?_
  refine x_istore_n dX4_wouldDo_21 (by decide) ?_
  simp only [wI_wI]
  refine x_ls [(0, .ref x), (1, .int (nI l)), (2, .int (nI m)), (3, .int (nI 0))] ⟨rfl, rfl, rfl, rfl, trivial⟩ ?_
  exact loop _ 0 g rfl (Nat.zero_le _) q1 e5 fun a ha => ((q2 a (by omega)).trans (p2 a (by omega))).trans (hf0 a ha)
theorem s_costOfNight {G : GT} {C : AH} {Q : QT} {X : XT} {sa va : Nat → Nat} {x T n : Nat} {S : Nat → Nat} {ρ : Rw} {L : List Rw} {K : Nat → Option Rw} {C0 : AH} {f0 : Nat → Nat → Int32} {l m : Nat} (hC : C = wI C0 f0) (hf0 : ∀ a : Nat, (a < x + 203 ∨ x + 216 ≤ a) → f0 a = gI C0 a) (hO : GO G) (hX : GX G sa va) (hT : T ≤ 40000) (hR : RX T C0 x (S, n, ρ, L, K)) (hl : l ≤ 23) (hm : m ≤ 72) (hq : ∀ g : Nat → Nat → Int32, (∀ a : Nat, (a < x + 203 ∨ x + 216 ≤ a) → g a = gI C0 a) → Q (some (.int (cst ρ m l))) (wI C0 g)) : Mt G M_X4_costOfNight [.ref x, .int (nI l), .int (nI m)] C Q X := by
  subst hC
  refine Mt_of (by decide) (Nat.le_of_ble_eq_true rfl) ?_
  obtain ⟨hk, π, hs, hv⟩ := id hR
  obtain ⟨hK, ⟨g0, g1, g2, g3, g4, g5, g6⟩, hTx, hNow, hHi, ⟨ks, ns, es⟩, ⟨kf, nf⟩, hTr, hPr, hSl, hgz⟩ := id hs
  have kTx := hTx.1
  have kNow := hNow.1
  have kHi := hHi.1
  have kTr := hTr.1
  have kPr := hPr.1
  obtain ⟨vT, vN, vH, vS⟩ : TxV (gI C0) (x + 1) S n ∧ VaD (gI C0) (x + 4) ρ ∧ HiV (gI C0) (x + 17) π L ∧ SlV (gI C0) x K := hv
  obtain ⟨ok1, ok2, ok3, ok4, ok5, ok6⟩ : Ok T ρ ∧ (∀ σ, σ ∈ L → Ok T σ) ∧ (∀ i σ, K i = some σ → Ok T σ) ∧ n ≤ 120 ∧ (∀ i, i < n → S i < 256) ∧ L.length ≤ 14 := hk
  obtain ⟨hW, hB⟩ := id ok1
  obtain ⟨b0, b3, b4, b5, b6, b7⟩ := id hB
  obtain ⟨w1, w2, w7, w8, w9, w10, w11, w11', w12, wB, wP⟩ := id hW
  obtain ⟨s0, s1, s2, s3, v4, v5, v6, v7, v8, v9, v10⟩ := SkD_f (C := C0) hNow vN
  have hks : okSN 5 l := ⟨by decide, Nat.zero_le _, hl⟩
  have okτ := Ok_stS ok1 hks
  refine x_aload_n dX4_costOfNight_0 rfl ?_
  refine x_get 6 hO dX4_costOfNight_1 f_X4_38 (by first | (simp only [gK_wI]; assumption) | assumption) ⟨by decide, by decide⟩ (v := .ref (x + 203)) (congrArg va_rf g5) ?_
  have hVn : VaD f0 (x + 4) ρ := VaD_in hW vN fun a h1 h2 => hf0 a (by omega)
  refine x_aload_n dX4_costOfNight_4 rfl ?_
  refine x_get 6 hO dX4_costOfNight_5 f_X4_19 (by first | (simp only [gK_wI]; assumption) | assumption) ⟨by decide, by decide⟩ (v := .ref (x + 4)) (congrArg va_rf g1) ?_
  refine x_callV (As := [_]) 3 hO dX4_costOfNight_8 o_X1_becomeLike v_X1_becomeLike l_X4_261 ⟨by decide, by decide⟩ (by first | (simp only [gK_wI]; assumption) | assumption) ⟨by decide, by decide⟩ rfl ⟨by decide, by decide⟩ rfl rfl (Nat.le_of_ble_eq_true rfl) (s_becomeLike (C := wI C0 f0) hO hTr hNow hVn hW (by omega) (fun f p1 p2 => ?_))
  dsimp only [Option.toList, List.cons_append, List.nil_append]
  simp only [wI_wI]
  refine x_aload_n dX4_costOfNight_11 rfl ?_
  refine x_get 6 hO dX4_costOfNight_12 f_X4_38 (by first | (simp only [gK_wI]; assumption) | assumption) ⟨by decide, by decide⟩ (v := .ref (x + 203)) (congrArg va_rf g5) ?_
  refine x_iconst (v := nI 5) dX4_costOfNight_15 (by decide) ?_
  refine x_iload_n dX4_costOfNight_16 rfl ?_
  refine x_callV (As := [_, _]) 3 hO dX4_costOfNight_17 o_X1_change v_X1_change l_X4_249 ⟨by decide, by decide⟩ (by first | (simp only [gK_wI]; assumption) | assumption) ⟨by decide, by decide⟩ rfl ⟨by decide, by decide⟩ rfl rfl (Nat.le_of_ble_eq_true rfl) (s_change (C := wI C0 f) hO hX hTr p1 hW hks (fun g q1 q2 => ?_))
  dsimp only [Option.toList, List.cons_append, List.nil_append]
  simp only [wI_wI]
  refine x_aload_n dX4_costOfNight_20 rfl ?_
  refine x_get 6 hO dX4_costOfNight_21 f_X4_38 (by first | (simp only [gK_wI]; assumption) | assumption) ⟨by decide, by decide⟩ (v := .ref (x + 203)) (congrArg va_rf g5) ?_
  refine x_iload_n dX4_costOfNight_24 rfl ?_
  refine x_callV (As := [_]) 3 hO dX4_costOfNight_25 o_X1_passHours v_X1_passHours l_X4_240 ⟨by decide, by decide⟩ (by first | (simp only [gK_wI]; assumption) | assumption) ⟨by decide, by decide⟩ rfl ⟨by decide, by decide⟩ rfl rfl (Nat.le_of_ble_eq_true rfl) (s_passHours (C := wI C0 g) hO hTr q1 okτ.1 okτ.2 (by omega) (fun g2 t1 t2 => ?_))
  dsimp only [Option.toList, List.cons_append, List.nil_append]
  simp only [wI_wI]
  have hfr : ∀ a : Nat, (a < x + 203 ∨ x + 216 ≤ a) → g2 a = gI C0 a := fun a ha => ((t2 a (by omega)).trans (q2 a (by omega))).trans ((p2 a (by omega)).trans (hf0 a ha))
  refine x_aload_n dX4_costOfNight_28 rfl ?_
  refine x_get 6 hO dX4_costOfNight_29 f_X4_38 (by first | (simp only [gK_wI]; assumption) | assumption) ⟨by decide, by decide⟩ (v := .ref (x + 203)) (congrArg va_rf g5) ?_
  refine x_get 3 hO dX4_costOfNight_32 f_X4_92 (by first | (simp only [gK_wI]; assumption) | assumption) ⟨by decide, by decide⟩ (v := .int (nI (runN m (stS ρ 5 l) 3))) (congrArg Value.int t1.2.2.2.1) ?_
  refine x_aload_n dX4_costOfNight_35 rfl ?_
  refine x_get 6 hO dX4_costOfNight_36 f_X4_19 (by first | (simp only [gK_wI]; assumption) | assumption) ⟨by decide, by decide⟩ (v := .ref (x + 4)) (congrArg va_rf g1) ?_
  refine x_get 3 hO dX4_costOfNight_39 f_X4_92 (by first | (simp only [gK_wI]; assumption) | assumption) ⟨by decide, by decide⟩ (v := .int (nI (ρ 3))) (congrArg Value.int ((congrFun (hfr (x + 4) (by omega)) 7).trans vN.2.2.2.1)) ?_
  refine x_isub dX4_costOfNight_42 ?_
  refine x_iret dX4_costOfNight_43 rfl rfl ?_
  exact hq g2 hfr

