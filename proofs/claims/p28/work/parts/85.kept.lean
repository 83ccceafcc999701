/-! the law: what is kept, bus by bus -/
theorem q_busN {G : GT} {C : AH} {Q : QT} {C0 : AH} {sa va : Nat → Nat} {x T n : Nat} {S : Nat → Nat} {ρ : Rw} {L : List Rw} {K : Nat → Option Rw} {b k z : Nat} (hN : GN G) (hO : GO G) (hX : GX G sa va) (hT : T ≤ 40000) (hb : b < ρ 1) (hk9 : k ≤ 9) (h8 : k ≠ 8) (e : buN ρ b k = z) (h : RF T C0 C x (S, n, ρ, L, K)) (hq : ∀ C' : AH, RF T C0 C' x (S, n, ρ, L, K) → Q (some (.long (lN z))) C') : MtH G M_L_bus hh_bus [.ref x, .int (nI b), .int (nI k)] C Q :=
  q_bus hN hO hX hT h fun C' h' => q_eq ((vBu_N h.1.1.1 (Nat.le_trans hT (by decide)) hb hk9 h8).trans (congrArg lN e)).symm (hq C' h')
theorem q_bus8 {G : GT} {C : AH} {Q : QT} {C0 : AH} {sa va : Nat → Nat} {x T n : Nat} {S : Nat → Nat} {ρ : Rw} {L : List Rw} {K : Nat → Option Rw} {b : Nat} {v : Int64} (hN : GN G) (hO : GO G) (hX : GX G sa va) (hT : T ≤ 40000) (hb : b < ρ 1) (e : eL ((pvw ρ).2.2.2.1 b) = v) (h : RF T C0 C x (S, n, ρ, L, K)) (hq : ∀ C' : AH, RF T C0 C' x (S, n, ρ, L, K) → Q (some (.long v)) C') : MtH G M_L_bus hh_bus [.ref x, .int (nI b), .int (nI 8)] C Q :=
  q_bus hN hO hX hT h fun C' h' => q_eq ((vBu_8 h.1.1.1.1 hb).trans e).symm (hq C' h')
theorem q_aboN {G : GT} {C : AH} {Q : QT} {C0 : AH} {sa va : Nat → Nat} {x T n : Nat} {S : Nat → Nat} {ρ : Rw} {L : List Rw} {K : Nat → Option Rw} {k z : Nat} (hN : GN G) (hO : GO G) (hX : GX G sa va) (hT : T ≤ 40000) (hk9 : k ≤ 10) (e : abN ρ k = z) (h : RF T C0 C x (S, n, ρ, L, K)) (hq : ∀ C' : AH, RF T C0 C' x (S, n, ρ, L, K) → Q (some (.long (lN z))) C') : MtH G M_L_about hh_about [.ref x, .int (nI k)] C Q :=
  q_about hN hO hX hT h fun C' h' => q_eq ((vAb_N h.1.1.1 (Nat.le_trans hT (by decide)) hk9).trans (congrArg lN e)).symm (hq C' h')
theorem q_chgN {G : GT} {C : AH} {Q : QT} {C0 : AH} {sa va : Nat → Nat} {x T n : Nat} {S : Nat → Nat} {ρ : Rw} {L : List Rw} {K : Nat → Option Rw} {c k z : Nat} (hN : GN G) (hO : GO G) (hX : GX G sa va) (hT : T ≤ 40000) (hc : c < ρ 2) (hk9 : k ≤ 1) (e : chN ρ c k = z) (h : RF T C0 C x (S, n, ρ, L, K)) (hq : ∀ C' : AH, RF T C0 C' x (S, n, ρ, L, K) → Q (some (.long (lN z))) C') : MtH G M_L_charger hh_charger [.ref x, .int (nI c), .int (nI k)] C Q :=
  q_charger hN hO hX hT h fun C' h' => q_eq ((vCh_N h.1.1.1.1 hc hk9).trans (congrArg lN e)).symm (hq C' h')
theorem q_chg2 {G : GT} {C : AH} {Q : QT} {C0 : AH} {sa va : Nat → Nat} {x T n : Nat} {S : Nat → Nat} {ρ : Rw} {L : List Rw} {K : Nat → Option Rw} {c : Nat} {v : Int64} (hN : GN G) (hO : GO G) (hX : GX G sa va) (hT : T ≤ 40000) (hc : c < ρ 2) (e : eL ((pvw ρ).2.2.2.2 c) = v) (h : RF T C0 C x (S, n, ρ, L, K)) (hq : ∀ C' : AH, RF T C0 C' x (S, n, ρ, L, K) → Q (some (.long v)) C') : MtH G M_L_charger hh_charger [.ref x, .int (nI c), .int (nI 2)] C Q :=
  q_charger hN hO hX hT h fun C' h' => q_eq ((vCh_2 h.1.1.1.1 hc).trans e).symm (hq C' h')
theorem q_setN {G : GT} {C : AH} {Q : QT} {C0 : AH} {sa va : Nat → Nat} {x T n : Nat} {S : Nat → Nat} {ρ : Rw} {L : List Rw} {K : Nat → Option Rw} {k z : Nat} (hN : GN G) (hO : GO G) (hX : GX G sa va) (hT : T ≤ 40000) (hk9 : k ≤ 5) (e : ρ (7 + k) = z) (h : RF T C0 C x (S, n, ρ, L, K)) (hq : ∀ C' : AH, RF T C0 C' x (S, n, ρ, L, K) → Q (some (.long (lN z))) C') : MtH G M_L_setting hh_setting [.ref x, .int (nI k)] C Q :=
  q_setting hN hO hX hT h fun C' h' => q_eq ((vSt_N h.1.1.1.1 hk9).trans (congrArg lN e)).symm (hq C' h')
theorem q_comN {G : GT} {C : AH} {Q : QT} {C0 : AH} {sa va : Nat → Nat} {x T n : Nat} {S : Nat → Nat} {ρ : Rw} {L : List Rw} {K : Nat → Option Rw} {m k z : Nat} (hN : GN G) (hO : GO G) (hX : GX G sa va) (hT : T ≤ 40000) (h1 : 1 ≤ m) (h2 : m ≤ 72) (hk9 : k ≤ 3) (e : runN m ρ (3 + k) - ρ (3 + k) = z) (h : RF T C0 C x (S, n, ρ, L, K)) (hq : ∀ C' : AH, RF T C0 C' x (S, n, ρ, L, K) → Q (some (.long (lN z))) C') : MtH G M_L_coming hh_coming [.ref x, .int (nI m), .int (nI k)] C Q :=
  q_coming hN hO hX hT h fun C' h' => q_eq ((vCo_N h.1.1.1 (Nat.le_trans hT (by decide)) h1 h2 hk9).trans (congrArg lN e)).symm (hq C' h')
theorem in_ok {a v b : Nat} (h1 : a ≤ v) (h2 : v ≤ b) (hb : b < 2 ^ 63) : ¬ (if lN a ≤ lN v ∧ lN v ≤ lN b then (1 : Int32) else 0) = 0 := by
  rw [if_pos ⟨(pk_lLE (by omega) (by omega)).mpr h1, (pk_lLE (by omega) hb).mpr h2⟩]
  decide
theorem lrem24 {a : Nat} (ha : a < 2 ^ 63) : lN a - lN a / 24 * 24 = lN (a % 24) := pk_lRem (a := a) (b := 24) ha (by decide) (by decide)
theorem lnn {a : Nat} (ha : a < 2 ^ 63) : ¬ lN a < 0 := fun q => Nat.not_lt_zero a ((pk_lLT (a := a) (b := 0) ha (by decide)).mp q)
abbrev f8N (ρ : Rw) : Nat → Nat := fun b => if ρ (bi b 6) = 0 ∧ ρ (bi b 1) < ρ (bi b 2) then 1 else 0
theorem kp_A {G : GT} {C : AH} {Q : QT} {C0 : AH} {sa va : Nat → Nat} {x T n i k0 n0 : Nat} {S : Nat → Nat} {ρ : Rw} {L : List Rw} {K : Nat → Option Rw} (hN : GN G) (hO : GO G) (hX : GX G sa va) (hT : T ≤ 40000) (hb : i < ρ 1) (h : RF T C0 C x (S, n, ρ, L, K)) (kk : ∀ C' : AH, RF T C0 C' x (S, n, ρ, L, K) → Ex G M_L_kept Q NX (k0) (n0) 136 [(0, .ref x), (1, .int (nI (ρ 1))), (2, .int (nI (ρ 2))), (3, .long (lN (sm (fun b => ρ (bi b 6)) i))), (5, .long (lN (sm (f8N ρ) i))), (7, .long (lN (sm (fun b => ρ (bi b 1)) i))), (9, .long (lN (sm (pvw ρ).2.2.1 i))), (11, .int (nI (mkN (pvw ρ).2.2.2.1 i))), (12, .int (nI 1)), (13, .int (nI i)), (14, .long (lN (ρ (bi i 0)))), (16, .long (lN (ρ (bi i 1)))), (18, .int (nI (ρ (bi i 6)))), (19, .int (nI (f8N ρ i)))] [] C') : Ex G M_L_kept Q NX (8 + k0) (48 + n0) 73 [(0, .ref x), (1, .int (nI (ρ 1))), (2, .int (nI (ρ 2))), (3, .long (lN (sm (fun b => ρ (bi b 6)) i))), (5, .long (lN (sm (f8N ρ) i))), (7, .long (lN (sm (fun b => ρ (bi b 1)) i))), (9, .long (lN (sm (pvw ρ).2.2.1 i))), (11, .int (nI (mkN (pvw ρ).2.2.2.1 i))), (12, .int (nI 1)), (13, .int (nI i))] [] C := by
  have hk : Ok T ρ := h.1.1.1
  obtain ⟨hW, hB⟩ := id hk
  obtain ⟨w1, w2, w7, w8, w9, w10, w11, w11', w12, wB, wP⟩ := id hW
  obtain ⟨g1, g2, g3, g4, g5, g6, g7, g8, g9⟩ := wB i hb
  rcases (show ρ (bi i 6) = 1 ∨ ρ (bi i 6) = 0 by omega) with ho | ho
  · have w8 : f8N ρ i = 0 := if_neg fun q => by omega
    refine x_aload_n dL_kept_73 rfl ?_
    refine x_iload dL_kept_74 rfl ?_
    refine x_iconst (v := nI 0) dL_kept_76 (by decide) ?_
    refine x_cX (c9 := 2) (s9 := 12) (As := [_, _, _]) hO dL_kept_77 o_L_bus s_L_bus l_L_110 ⟨by decide, by decide⟩ ⟨rfl, rfl⟩ ⟨by omega, by omega⟩ rfl rfl (Nat.le_of_ble_eq_true rfl) (q_busN hN hO hX hT hb (by decide) (by decide) (z := ρ (bi i 0)) rfl h (fun C1 h => ?_))
    dsimp only [Option.toList, List.cons_append, List.nil_append]
    refine x_lstore dL_kept_80 (by decide) ?_
    refine x_aload_n dL_kept_82 rfl ?_
    refine x_iload dL_kept_83 rfl ?_
    refine x_iconst (v := nI 1) dL_kept_85 (by decide) ?_
    refine x_cX (c9 := 2) (s9 := 12) (As := [_, _, _]) hO dL_kept_86 o_L_bus s_L_bus l_L_110 ⟨by decide, by decide⟩ ⟨rfl, rfl⟩ ⟨by omega, by omega⟩ rfl rfl (Nat.le_of_ble_eq_true rfl) (q_busN hN hO hX hT hb (by decide) (by decide) (z := ρ (bi i 1)) rfl h (fun C1 h => ?_))
    dsimp only [Option.toList, List.cons_append, List.nil_append]
    refine x_lstore dL_kept_89 (by decide) ?_
    refine x_aload_n dL_kept_91 rfl ?_
    refine x_iload dL_kept_92 rfl ?_
    refine x_bipush (v := nI 6) dL_kept_94 (by decide) ?_
    refine x_cX (c9 := 2) (s9 := 12) (As := [_, _, _]) hO dL_kept_96 o_L_bus s_L_bus l_L_110 ⟨by decide, by decide⟩ ⟨rfl, rfl⟩ ⟨by omega, by omega⟩ rfl rfl (Nat.le_of_ble_eq_true rfl) (q_busN hN hO hX hT hb (by decide) (by decide) (z := ρ (bi i 6)) rfl h (fun C1 h => ?_))
    dsimp only [Option.toList, List.cons_append, List.nil_append]
    rw [ho]
    refine x_lconst (v := 1) dL_kept_99 (by decide) ?_
    refine x_lc_neN (tgt := 108) dL_kept_100 dL_kept_101 (by decide) rfl ?_
    refine x_iconst (v := nI 1) dL_kept_104 (by decide) ?_
    refine x_goto (tgt := 109) dL_kept_105 (by decide) ?_
    refine x_istore dL_kept_109 (by decide) ?_
    refine x_iload dL_kept_111 rfl ?_
    refine x_if_neT (tgt := 133) dL_kept_113 (by decide) (by decide) ?_
    refine x_iconst (v := nI 0) dL_kept_133 (by decide) ?_
    refine x_istore dL_kept_134 (by decide) ?_
    refine x_ls [(0, .ref x), (1, .int (nI (ρ 1))), (2, .int (nI (ρ 2))), (3, .long (lN (sm (fun b => ρ (bi b 6)) i))), (5, .long (lN (sm (f8N ρ) i))), (7, .long (lN (sm (fun b => ρ (bi b 1)) i))), (9, .long (lN (sm (pvw ρ).2.2.1 i))), (11, .int (nI (mkN (pvw ρ).2.2.2.1 i))), (12, .int (nI 1)), (13, .int (nI i)), (14, .long (lN (ρ (bi i 0)))), (16, .long (lN (ρ (bi i 1)))), (18, .int (nI (ρ (bi i 6)))), (19, .int (nI (f8N ρ i)))] ⟨rfl, rfl, rfl, rfl, rfl, rfl, rfl, rfl, rfl, rfl, rfl, rfl, (by rw [ho]; rfl), (by rw [w8]; rfl), trivial⟩ ?_
    refine x_room (k := k0) (n := n0) (by omega) (by omega) ?_
    exact kk _ h
  by_cases hl : ρ (bi i 1) < ρ (bi i 2)
  · have w8 : f8N ρ i = 1 := if_pos ⟨ho, hl⟩
    refine x_aload_n dL_kept_73 rfl ?_
    refine x_iload dL_kept_74 rfl ?_
    refine x_iconst (v := nI 0) dL_kept_76 (by decide) ?_
    refine x_cX (c9 := 2) (s9 := 12) (As := [_, _, _]) hO dL_kept_77 o_L_bus s_L_bus l_L_110 ⟨by decide, by decide⟩ ⟨rfl, rfl⟩ ⟨by omega, by omega⟩ rfl rfl (Nat.le_of_ble_eq_true rfl) (q_busN hN hO hX hT hb (by decide) (by decide) (z := ρ (bi i 0)) rfl h (fun C1 h => ?_))
    dsimp only [Option.toList, List.cons_append, List.nil_append]
    refine x_lstore dL_kept_80 (by decide) ?_
    refine x_aload_n dL_kept_82 rfl ?_
    refine x_iload dL_kept_83 rfl ?_
    refine x_iconst (v := nI 1) dL_kept_85 (by decide) ?_
    refine x_cX (c9 := 2) (s9 := 12) (As := [_, _, _]) hO dL_kept_86 o_L_bus s_L_bus l_L_110 ⟨by decide, by decide⟩ ⟨rfl, rfl⟩ ⟨by omega, by omega⟩ rfl rfl (Nat.le_of_ble_eq_true rfl) (q_busN hN hO hX hT hb (by decide) (by decide) (z := ρ (bi i 1)) rfl h (fun C1 h => ?_))
    dsimp only [Option.toList, List.cons_append, List.nil_append]
    refine x_lstore dL_kept_89 (by decide) ?_
    refine x_aload_n dL_kept_91 rfl ?_
    refine x_iload dL_kept_92 rfl ?_
    refine x_bipush (v := nI 6) dL_kept_94 (by decide) ?_
    refine x_cX (c9 := 2) (s9 := 12) (As := [_, _, _]) hO dL_kept_96 o_L_bus s_L_bus l_L_110 ⟨by decide, by decide⟩ ⟨rfl, rfl⟩ ⟨by omega, by omega⟩ rfl rfl (Nat.le_of_ble_eq_true rfl) (q_busN hN hO hX hT hb (by decide) (by decide) (z := ρ (bi i 6)) rfl h (fun C1 h => ?_))
    dsimp only [Option.toList, List.cons_append, List.nil_append]
    rw [ho]
    refine x_lconst (v := 1) dL_kept_99 (by decide) ?_
    refine x_lc_neT (tgt := 108) dL_kept_100 dL_kept_101 (by decide) (by decide) ?_
    refine x_iconst (v := nI 0) dL_kept_108 (by decide) ?_
    refine x_istore dL_kept_109 (by decide) ?_
    refine x_iload dL_kept_111 rfl ?_
    refine x_if_neN (tgt := 133) dL_kept_113 (by decide) rfl ?_
    refine x_lload dL_kept_116 rfl ?_
    refine x_aload_n dL_kept_118 rfl ?_
    refine x_iload dL_kept_119 rfl ?_
    refine x_iconst (v := nI 2) dL_kept_121 (by decide) ?_
    refine x_cX (c9 := 2) (s9 := 12) (As := [_, _, _]) hO dL_kept_122 o_L_bus s_L_bus l_L_110 ⟨by decide, by decide⟩ ⟨rfl, rfl⟩ ⟨by omega, by omega⟩ rfl rfl (Nat.le_of_ble_eq_true rfl) (q_busN hN hO hX hT hb (by decide) (by decide) (z := ρ (bi i 2)) rfl h (fun C1 h => ?_))
    dsimp only [Option.toList, List.cons_append, List.nil_append]
    refine x_lc_geN (tgt := 133) dL_kept_125 dL_kept_126 (by decide) (fun q => Nat.not_le_of_lt hl ((pk_lLE (by omega) (by omega)).mp q)) ?_
    refine x_iconst (v := nI 1) dL_kept_129 (by decide) ?_
    refine x_goto (tgt := 134) dL_kept_130 (by decide) ?_
    refine x_istore dL_kept_134 (by decide) ?_
    refine x_ls [(0, .ref x), (1, .int (nI (ρ 1))), (2, .int (nI (ρ 2))), (3, .long (lN (sm (fun b => ρ (bi b 6)) i))), (5, .long (lN (sm (f8N ρ) i))), (7, .long (lN (sm (fun b => ρ (bi b 1)) i))), (9, .long (lN (sm (pvw ρ).2.2.1 i))), (11, .int (nI (mkN (pvw ρ).2.2.2.1 i))), (12, .int (nI 1)), (13, .int (nI i)), (14, .long (lN (ρ (bi i 0)))), (16, .long (lN (ρ (bi i 1)))), (18, .int (nI (ρ (bi i 6)))), (19, .int (nI (f8N ρ i)))] ⟨rfl, rfl, rfl, rfl, rfl, rfl, rfl, rfl, rfl, rfl, rfl, rfl, (by rw [ho]; rfl), (by rw [w8]; rfl), trivial⟩ ?_
    refine x_room (k := k0) (n := n0) (by omega) (by omega) ?_
    exact kk _ h
  · have w8 : f8N ρ i = 0 := if_neg fun q => hl q.2
    refine x_aload_n dL_kept_73 rfl ?_
    refine x_iload dL_kept_74 rfl ?_
    refine x_iconst (v := nI 0) dL_kept_76 (by decide) ?_
    refine x_cX (c9 := 2) (s9 := 12) (As := [_, _, _]) hO dL_kept_77 o_L_bus s_L_bus l_L_110 ⟨by decide, by decide⟩ ⟨rfl, rfl⟩ ⟨by omega, by omega⟩ rfl rfl (Nat.le_of_ble_eq_true rfl) (q_busN hN hO hX hT hb (by decide) (by decide) (z := ρ (bi i 0)) rfl h (fun C1 h => ?_))
    dsimp only [Option.toList, List.cons_append, List.nil_append]
    refine x_lstore dL_kept_80 (by decide) ?_
    refine x_aload_n dL_kept_82 rfl ?_
    refine x_iload dL_kept_83 rfl ?_
    refine x_iconst (v := nI 1) dL_kept_85 (by decide) ?_
    refine x_cX (c9 := 2) (s9 := 12) (As := [_, _, _]) hO dL_kept_86 o_L_bus s_L_bus l_L_110 ⟨by decide, by decide⟩ ⟨rfl, rfl⟩ ⟨by omega, by omega⟩ rfl rfl (Nat.le_of_ble_eq_true rfl) (q_busN hN hO hX hT hb (by decide) (by decide) (z := ρ (bi i 1)) rfl h (fun C1 h => ?_))
    dsimp only [Option.toList, List.cons_append, List.nil_append]
    refine x_lstore dL_kept_89 (by decide) ?_
    refine x_aload_n dL_kept_91 rfl ?_
    refine x_iload dL_kept_92 rfl ?_
    refine x_bipush (v := nI 6) dL_kept_94 (by decide) ?_
    refine x_cX (c9 := 2) (s9 := 12) (As := [_, _, _]) hO dL_kept_96 o_L_bus s_L_bus l_L_110 ⟨by decide, by decide⟩ ⟨rfl, rfl⟩ ⟨by omega, by omega⟩ rfl rfl (Nat.le_of_ble_eq_true rfl) (q_busN hN hO hX hT hb (by decide) (by decide) (z := ρ (bi i 6)) rfl h (fun C1 h => ?_))
    dsimp only [Option.toList, List.cons_append, List.nil_append]
    rw [ho]
    refine x_lconst (v := 1) dL_kept_99 (by decide) ?_
    refine x_lc_neT (tgt := 108) dL_kept_100 dL_kept_101 (by decide) (by decide) ?_
    refine x_iconst (v := nI 0) dL_kept_108 (by decide) ?_
    refine x_istore dL_kept_109 (by decide) ?_
    refine x_iload dL_kept_111 rfl ?_
    refine x_if_neN (tgt := 133) dL_kept_113 (by decide) rfl ?_
    refine x_lload dL_kept_116 rfl ?_
    refine x_aload_n dL_kept_118 rfl ?_
    refine x_iload dL_kept_119 rfl ?_
    refine x_iconst (v := nI 2) dL_kept_121 (by decide) ?_
    refine x_cX (c9 := 2) (s9 := 12) (As := [_, _, _]) hO dL_kept_122 o_L_bus s_L_bus l_L_110 ⟨by decide, by decide⟩ ⟨rfl, rfl⟩ ⟨by omega, by omega⟩ rfl rfl (Nat.le_of_ble_eq_true rfl) (q_busN hN hO hX hT hb (by decide) (by decide) (z := ρ (bi i 2)) rfl h (fun C1 h => ?_))
    dsimp only [Option.toList, List.cons_append, List.nil_append]
    refine x_lc_geT (tgt := 133) dL_kept_125 dL_kept_126 (by decide) ((pk_lLE (by omega) (by omega)).mpr (Nat.le_of_not_lt hl)) ?_
    refine x_iconst (v := nI 0) dL_kept_133 (by decide) ?_
    refine x_istore dL_kept_134 (by decide) ?_
    refine x_ls [(0, .ref x), (1, .int (nI (ρ 1))), (2, .int (nI (ρ 2))), (3, .long (lN (sm (fun b => ρ (bi b 6)) i))), (5, .long (lN (sm (f8N ρ) i))), (7, .long (lN (sm (fun b => ρ (bi b 1)) i))), (9, .long (lN (sm (pvw ρ).2.2.1 i))), (11, .int (nI (mkN (pvw ρ).2.2.2.1 i))), (12, .int (nI 1)), (13, .int (nI i)), (14, .long (lN (ρ (bi i 0)))), (16, .long (lN (ρ (bi i 1)))), (18, .int (nI (ρ (bi i 6)))), (19, .int (nI (f8N ρ i)))] ⟨rfl, rfl, rfl, rfl, rfl, rfl, rfl, rfl, rfl, rfl, rfl, rfl, (by rw [ho]; rfl), (by rw [w8]; rfl), trivial⟩ ?_
    refine x_room (k := k0) (n := n0) (by omega) (by omega) ?_
    exact kk _ h

theorem kp_B {G : GT} {C : AH} {Q : QT} {C0 : AH} {sa va : Nat → Nat} {x T n i k0 n0 : Nat} {S : Nat → Nat} {ρ : Rw} {L : List Rw} {K : Nat → Option Rw} (hN : GN G) (hO : GO G) (hX : GX G sa va) (hT : T ≤ 40000) (hb : i < ρ 1) (h : RF T C0 C x (S, n, ρ, L, K)) (kk : ∀ C' : AH, RF T C0 C' x (S, n, ρ, L, K) → Ex G M_L_kept Q NX (k0) (n0) 162 [(0, .ref x), (1, .int (nI (ρ 1))), (2, .int (nI (ρ 2))), (3, .long (lN (sm (fun b => ρ (bi b 6)) (i + 1)))), (5, .long (lN (sm (f8N ρ) (i + 1)))), (7, .long (lN (sm (fun b => ρ (bi b 1)) i))), (9, .long (lN (sm (pvw ρ).2.2.1 i))), (11, .int (nI (mkN (pvw ρ).2.2.2.1 i))), (12, .int (nI 1)), (13, .int (nI i)), (14, .long (lN (ρ (bi i 0)))), (16, .long (lN (ρ (bi i 1)))), (18, .int (nI (ρ (bi i 6)))), (19, .int (nI (f8N ρ i)))] [] C') : Ex G M_L_kept Q NX (2 + k0) (12 + n0) 136 [(0, .ref x), (1, .int (nI (ρ 1))), (2, .int (nI (ρ 2))), (3, .long (lN (sm (fun b => ρ (bi b 6)) i))), (5, .long (lN (sm (f8N ρ) i))), (7, .long (lN (sm (fun b => ρ (bi b 1)) i))), (9, .long (lN (sm (pvw ρ).2.2.1 i))), (11, .int (nI (mkN (pvw ρ).2.2.2.1 i))), (12, .int (nI 1)), (13, .int (nI i)), (14, .long (lN (ρ (bi i 0)))), (16, .long (lN (ρ (bi i 1)))), (18, .int (nI (ρ (bi i 6)))), (19, .int (nI (f8N ρ i)))] [] C := by
  have hk : Ok T ρ := h.1.1.1
  obtain ⟨hW, hB⟩ := id hk
  obtain ⟨w1, w2, w7, w8, w9, w10, w11, w11', w12, wB, wP⟩ := id hW
  obtain ⟨g1, g2, g3, g4, g5, g6, g7, g8, g9⟩ := wB i hb
  rcases (show f8N ρ i = 1 ∨ f8N ρ i = 0 by unfold f8N; split <;> omega) with w8 | w8
  · skip
    refine x_ls [(0, .ref x), (1, .int (nI (ρ 1))), (2, .int (nI (ρ 2))), (3, .long (lN (sm (fun b => ρ (bi b 6)) i))), (5, .long (lN (sm (f8N ρ) i))), (7, .long (lN (sm (fun b => ρ (bi b 1)) i))), (9, .long (lN (sm (pvw ρ).2.2.1 i))), (11, .int (nI (mkN (pvw ρ).2.2.2.1 i))), (12, .int (nI 1)), (13, .int (nI i)), (14, .long (lN (ρ (bi i 0)))), (16, .long (lN (ρ (bi i 1)))), (18, .int (nI (ρ (bi i 6)))), (19, .int (nI 1))] ⟨rfl, rfl, rfl, rfl, rfl, rfl, rfl, rfl, rfl, rfl, rfl, rfl, rfl, (by rw [w8]; rfl), trivial⟩ ?_
    refine x_lload_n dL_kept_136 rfl ?_
    refine x_aload_n dL_kept_137 rfl ?_
    refine x_iload dL_kept_138 rfl ?_
    refine x_bipush (v := nI 6) dL_kept_140 (by decide) ?_
    refine x_cX (c9 := 2) (s9 := 12) (As := [_, _, _]) hO dL_kept_142 o_L_bus s_L_bus l_L_110 ⟨by decide, by decide⟩ ⟨rfl, rfl⟩ ⟨by omega, by omega⟩ rfl rfl (Nat.le_of_ble_eq_true rfl) (q_busN hN hO hX hT hb (by decide) (by decide) (z := ρ (bi i 6)) rfl h (fun C1 h => ?_))
    dsimp only [Option.toList, List.cons_append, List.nil_append]
    refine x_ladd dL_kept_145 ?_
    refine x_lstore_n dL_kept_146 (by decide) ?_
    refine x_lload dL_kept_147 rfl ?_
    refine x_iload dL_kept_149 rfl ?_
    refine x_if_eqN (tgt := 158) dL_kept_151 (by decide) (by decide) ?_
    refine x_lconst (v := 1) dL_kept_154 (by decide) ?_
    refine x_goto (tgt := 159) dL_kept_155 (by decide) ?_
    refine x_ladd dL_kept_159 ?_
    refine x_lstore dL_kept_160 (by decide) ?_
    refine x_ls [(0, .ref x), (1, .int (nI (ρ 1))), (2, .int (nI (ρ 2))), (3, .long (lN (sm (fun b => ρ (bi b 6)) (i + 1)))), (5, .long (lN (sm (f8N ρ) (i + 1)))), (7, .long (lN (sm (fun b => ρ (bi b 1)) i))), (9, .long (lN (sm (pvw ρ).2.2.1 i))), (11, .int (nI (mkN (pvw ρ).2.2.2.1 i))), (12, .int (nI 1)), (13, .int (nI i)), (14, .long (lN (ρ (bi i 0)))), (16, .long (lN (ρ (bi i 1)))), (18, .int (nI (ρ (bi i 6)))), (19, .int (nI (f8N ρ i)))] ⟨rfl, rfl, rfl, (by rw [show sm (fun b => ρ (bi b 6)) (i + 1) = sm (fun b => ρ (bi b 6)) i + ρ (bi i 6) from rfl, ← lN_add]; rfl), (by rw [show sm (f8N ρ) (i + 1) = sm (f8N ρ) i + f8N ρ i from rfl, w8, ← lN_add]; rfl), rfl, rfl, rfl, rfl, rfl, rfl, rfl, rfl, (by rw [w8]; rfl), trivial⟩ ?_
    refine x_room (k := k0) (n := n0) (by omega) (by omega) ?_
    exact kk _ h
  · skip
    refine x_ls [(0, .ref x), (1, .int (nI (ρ 1))), (2, .int (nI (ρ 2))), (3, .long (lN (sm (fun b => ρ (bi b 6)) i))), (5, .long (lN (sm (f8N ρ) i))), (7, .long (lN (sm (fun b => ρ (bi b 1)) i))), (9, .long (lN (sm (pvw ρ).2.2.1 i))), (11, .int (nI (mkN (pvw ρ).2.2.2.1 i))), (12, .int (nI 1)), (13, .int (nI i)), (14, .long (lN (ρ (bi i 0)))), (16, .long (lN (ρ (bi i 1)))), (18, .int (nI (ρ (bi i 6)))), (19, .int (nI 0))] ⟨rfl, rfl, rfl, rfl, rfl, rfl, rfl, rfl, rfl, rfl, rfl, rfl, rfl, (by rw [w8]; rfl), trivial⟩ ?_
    refine x_lload_n dL_kept_136 rfl ?_
    refine x_aload_n dL_kept_137 rfl ?_
    refine x_iload dL_kept_138 rfl ?_
    refine x_bipush (v := nI 6) dL_kept_140 (by decide) ?_
    refine x_cX (c9 := 2) (s9 := 12) (As := [_, _, _]) hO dL_kept_142 o_L_bus s_L_bus l_L_110 ⟨by decide, by decide⟩ ⟨rfl, rfl⟩ ⟨by omega, by omega⟩ rfl rfl (Nat.le_of_ble_eq_true rfl) (q_busN hN hO hX hT hb (by decide) (by decide) (z := ρ (bi i 6)) rfl h (fun C1 h => ?_))
    dsimp only [Option.toList, List.cons_append, List.nil_append]
    refine x_ladd dL_kept_145 ?_
    refine x_lstore_n dL_kept_146 (by decide) ?_
    refine x_lload dL_kept_147 rfl ?_
    refine x_iload dL_kept_149 rfl ?_
    refine x_if_eqT (tgt := 158) dL_kept_151 (by decide) rfl ?_
    refine x_lconst (v := 0) dL_kept_158 (by decide) ?_
    refine x_ladd dL_kept_159 ?_
    refine x_lstore dL_kept_160 (by decide) ?_
    refine x_ls [(0, .ref x), (1, .int (nI (ρ 1))), (2, .int (nI (ρ 2))), (3, .long (lN (sm (fun b => ρ (bi b 6)) (i + 1)))), (5, .long (lN (sm (f8N ρ) (i + 1)))), (7, .long (lN (sm (fun b => ρ (bi b 1)) i))), (9, .long (lN (sm (pvw ρ).2.2.1 i))), (11, .int (nI (mkN (pvw ρ).2.2.2.1 i))), (12, .int (nI 1)), (13, .int (nI i)), (14, .long (lN (ρ (bi i 0)))), (16, .long (lN (ρ (bi i 1)))), (18, .int (nI (ρ (bi i 6)))), (19, .int (nI (f8N ρ i)))] ⟨rfl, rfl, rfl, (by rw [show sm (fun b => ρ (bi b 6)) (i + 1) = sm (fun b => ρ (bi b 6)) i + ρ (bi i 6) from rfl, ← lN_add]; rfl), (by rw [show sm (f8N ρ) (i + 1) = sm (f8N ρ) i + f8N ρ i from rfl, w8, ← lN_add]; rfl), rfl, rfl, rfl, rfl, rfl, rfl, rfl, rfl, (by rw [w8]; rfl), trivial⟩ ?_
    refine x_room (k := k0) (n := n0) (by omega) (by omega) ?_
    exact kk _ h

theorem kp_C {G : GT} {C : AH} {Q : QT} {C0 : AH} {sa va : Nat → Nat} {x T n i k0 n0 : Nat} {S : Nat → Nat} {ρ : Rw} {L : List Rw} {K : Nat → Option Rw} (hN : GN G) (hO : GO G) (hX : GX G sa va) (hT : T ≤ 40000) (hb : i < ρ 1) (h : RF T C0 C x (S, n, ρ, L, K)) (kk : ∀ C' : AH, RF T C0 C' x (S, n, ρ, L, K) → Ex G M_L_kept Q NX (k0) (n0) 313 [(0, .ref x), (1, .int (nI (ρ 1))), (2, .int (nI (ρ 2))), (3, .long (lN (sm (fun b => ρ (bi b 6)) (i + 1)))), (5, .long (lN (sm (f8N ρ) (i + 1)))), (7, .long (lN (sm (fun b => ρ (bi b 1)) (i + 1)))), (9, .long (lN (sm (pvw ρ).2.2.1 (i + 1)))), (11, .int (nI (mkN (pvw ρ).2.2.2.1 i))), (12, .int (nI 1)), (13, .int (nI i)), (14, .long (lN (ρ (bi i 0)))), (16, .long (lN (ρ (bi i 1)))), (18, .int (nI (ρ (bi i 6)))), (19, .int (nI (f8N ρ i))), (20, .int (eL ((pvw ρ).2.2.2.1 i)).toInt32)] [] C') : Ex G M_L_kept Q NX (23 + k0) (138 + n0) 162 [(0, .ref x), (1, .int (nI (ρ 1))), (2, .int (nI (ρ 2))), (3, .long (lN (sm (fun b => ρ (bi b 6)) (i + 1)))), (5, .long (lN (sm (f8N ρ) (i + 1)))), (7, .long (lN (sm (fun b => ρ (bi b 1)) i))), (9, .long (lN (sm (pvw ρ).2.2.1 i))), (11, .int (nI (mkN (pvw ρ).2.2.2.1 i))), (12, .int (nI 1)), (13, .int (nI i)), (14, .long (lN (ρ (bi i 0)))), (16, .long (lN (ρ (bi i 1)))), (18, .int (nI (ρ (bi i 6)))), (19, .int (nI (f8N ρ i)))] [] C := by
  have hk : Ok T ρ := h.1.1.1
  obtain ⟨hW, hB⟩ := id hk
  obtain ⟨w1, w2, w7, w8, w9, w10, w11, w11', w12, wB, wP⟩ := id hW
  obtain ⟨g1, g2, g3, g4, g5, g6, g7, g8, g9⟩ := wB i hb
  have hu := (pvw_un (j := i) hW).1
  have hh := hrs_in (ρ := ρ) (b := i)
  have hB0 := hB.1
  refine x_lload dL_kept_162 rfl ?_
  refine x_lload dL_kept_164 rfl ?_
  refine x_ladd dL_kept_166 ?_
  refine x_lstore dL_kept_167 (by decide) ?_
  refine x_lload dL_kept_169 rfl ?_
  refine x_aload_n dL_kept_171 rfl ?_
  refine x_iload dL_kept_172 rfl ?_
  refine x_bipush (v := nI 7) dL_kept_174 (by decide) ?_
  refine x_cX (c9 := 2) (s9 := 12) (As := [_, _, _]) hO dL_kept_176 o_L_bus s_L_bus l_L_110 ⟨by decide, by decide⟩ ⟨rfl, rfl⟩ ⟨by omega, by omega⟩ rfl rfl (Nat.le_of_ble_eq_true rfl) (q_busN hN hO hX hT hb (by decide) (by decide) (z := (pvw ρ).2.2.1 i) rfl h (fun C1 h => ?_))
  dsimp only [Option.toList, List.cons_append, List.nil_append]
  refine x_ladd dL_kept_179 ?_
  refine x_lstore dL_kept_180 (by decide) ?_
  refine x_aload_n dL_kept_182 rfl ?_
  refine x_iload dL_kept_183 rfl ?_
  refine x_bipush (v := nI 8) dL_kept_185 (by decide) ?_
  refine x_cX (c9 := 2) (s9 := 12) (As := [_, _, _]) hO dL_kept_187 o_L_bus s_L_bus l_L_110 ⟨by decide, by decide⟩ ⟨rfl, rfl⟩ ⟨by omega, by omega⟩ rfl rfl (Nat.le_of_ble_eq_true rfl) (q_bus8 hN hO hX hT hb rfl h (fun C1 h => ?_))
  dsimp only [Option.toList, List.cons_append, List.nil_append]
  refine x_l2i dL_kept_190 ?_
  refine x_istore dL_kept_191 (by decide) ?_
  refine x_lload dL_kept_193 rfl ?_
  refine x_ldc2 hO.1 dL_kept_195 k_L_168 ?_
  refine x_ldc2 hO.1 dL_kept_198 k_L_190 ?_
  refine x_cS (c9 := 0) (s9 := 0) (As := [_, _, _]) hO dL_kept_201 o_L_in s_L_in l_L_164 ⟨by decide, by decide⟩ ⟨rfl, rfl⟩ ⟨by omega, by omega⟩ rfl rfl (Nat.le_of_ble_eq_true rfl) (m_in (fun r hr => ?_))
  dsimp only [Option.toList, List.cons_append, List.nil_append]
  refine x_if_eqN (tgt := 382) dL_kept_204 (by decide) (by rw [hr]; exact in_ok (a := 10) (v := ρ (bi i 0)) (b := 400) (by omega) (by omega) (by omega)) ?_
  refine x_lload dL_kept_207 rfl ?_
  refine x_lconst (v := 0) dL_kept_209 (by decide) ?_
  refine x_lload dL_kept_210 rfl ?_
  refine x_cS (c9 := 0) (s9 := 0) (As := [_, _, _]) hO dL_kept_212 o_L_in s_L_in l_L_164 ⟨by decide, by decide⟩ ⟨rfl, rfl⟩ ⟨by omega, by omega⟩ rfl rfl (Nat.le_of_ble_eq_true rfl) (m_in (fun r hr => ?_))
  dsimp only [Option.toList, List.cons_append, List.nil_append]
  refine x_if_eqN (tgt := 382) dL_kept_215 (by decide) (by rw [hr]; exact in_ok (a := 0) (v := ρ (bi i 1)) (b := ρ (bi i 0)) (by omega) (by omega) (by omega)) ?_
  refine x_aload_n dL_kept_218 rfl ?_
  refine x_iload dL_kept_219 rfl ?_
  refine x_iconst (v := nI 2) dL_kept_221 (by decide) ?_
  refine x_cX (c9 := 2) (s9 := 12) (As := [_, _, _]) hO dL_kept_222 o_L_bus s_L_bus l_L_110 ⟨by decide, by decide⟩ ⟨rfl, rfl⟩ ⟨by omega, by omega⟩ rfl rfl (Nat.le_of_ble_eq_true rfl) (q_busN hN hO hX hT hb (by decide) (by decide) (z := ρ (bi i 2)) rfl h (fun C1 h => ?_))
  dsimp only [Option.toList, List.cons_append, List.nil_append]
  refine x_lconst (v := 1) dL_kept_225 (by decide) ?_
  refine x_ldc2 hO.1 dL_kept_226 k_L_190 ?_
  refine x_cS (c9 := 0) (s9 := 0) (As := [_, _, _]) hO dL_kept_229 o_L_in s_L_in l_L_164 ⟨by decide, by decide⟩ ⟨rfl, rfl⟩ ⟨by omega, by omega⟩ rfl rfl (Nat.le_of_ble_eq_true rfl) (m_in (fun r hr => ?_))
  dsimp only [Option.toList, List.cons_append, List.nil_append]
  refine x_if_eqN (tgt := 382) dL_kept_232 (by decide) (by rw [hr]; exact in_ok (a := 1) (v := ρ (bi i 2)) (b := 400) (by omega) (by omega) (by omega)) ?_
  refine x_aload_n dL_kept_235 rfl ?_
  refine x_iload dL_kept_236 rfl ?_
  refine x_iconst (v := nI 3) dL_kept_238 (by decide) ?_
  refine x_cX (c9 := 2) (s9 := 12) (As := [_, _, _]) hO dL_kept_239 o_L_bus s_L_bus l_L_110 ⟨by decide, by decide⟩ ⟨rfl, rfl⟩ ⟨by omega, by omega⟩ rfl rfl (Nat.le_of_ble_eq_true rfl) (q_busN hN hO hX hT hb (by decide) (by decide) (z := ρ (bi i 3)) rfl h (fun C1 h => ?_))
  dsimp only [Option.toList, List.cons_append, List.nil_append]
  refine x_aload_n dL_kept_242 rfl ?_
  refine x_iload dL_kept_243 rfl ?_
  refine x_iconst (v := nI 4) dL_kept_245 (by decide) ?_
  refine x_cX (c9 := 2) (s9 := 12) (As := [_, _, _]) hO dL_kept_246 o_L_bus s_L_bus l_L_110 ⟨by decide, by decide⟩ ⟨rfl, rfl⟩ ⟨by omega, by omega⟩ rfl rfl (Nat.le_of_ble_eq_true rfl) (q_busN hN hO hX hT hb (by decide) (by decide) (z := ρ (bi i 4)) rfl h (fun C1 h => ?_))
  dsimp only [Option.toList, List.cons_append, List.nil_append]
  refine x_lc_eqN (tgt := 382) dL_kept_249 dL_kept_250 (by decide) (fun q => g8 ((pk_lEQ (by omega) (by omega)).mp q)) ?_
  refine x_aload_n dL_kept_253 rfl ?_
  refine x_iload dL_kept_254 rfl ?_
  refine x_bipush (v := nI 9) dL_kept_256 (by decide) ?_
  refine x_cX (c9 := 2) (s9 := 12) (As := [_, _, _]) hO dL_kept_258 o_L_bus s_L_bus l_L_110 ⟨by decide, by decide⟩ ⟨rfl, rfl⟩ ⟨by omega, by omega⟩ rfl rfl (Nat.le_of_ble_eq_true rfl) (q_busN hN hO hX hT hb (by decide) (by decide) (z := hrs ρ i) rfl h (fun C1 h => ?_))
  dsimp only [Option.toList, List.cons_append, List.nil_append]
  refine x_lconst (v := 1) dL_kept_261 (by decide) ?_
  refine x_ldc2 hO.1 dL_kept_262 k_L_192 ?_
  refine x_cS (c9 := 0) (s9 := 0) (As := [_, _, _]) hO dL_kept_265 o_L_in s_L_in l_L_164 ⟨by decide, by decide⟩ ⟨rfl, rfl⟩ ⟨by omega, by omega⟩ rfl rfl (Nat.le_of_ble_eq_true rfl) (m_in (fun r hr => ?_))
  dsimp only [Option.toList, List.cons_append, List.nil_append]
  refine x_if_eqN (tgt := 382) dL_kept_268 (by decide) (by rw [hr]; exact in_ok (a := 1) (v := hrs ρ i) (b := 24) (by omega) (by omega) (by omega)) ?_
  refine x_aload_n dL_kept_271 rfl ?_
  refine x_iload dL_kept_272 rfl ?_
  refine x_bipush (v := nI 9) dL_kept_274 (by decide) ?_
  refine x_cX (c9 := 2) (s9 := 12) (As := [_, _, _]) hO dL_kept_276 o_L_bus s_L_bus l_L_110 ⟨by decide, by decide⟩ ⟨rfl, rfl⟩ ⟨by omega, by omega⟩ rfl rfl (Nat.le_of_ble_eq_true rfl) (q_busN hN hO hX hT hb (by decide) (by decide) (z := hrs ρ i) rfl h (fun C1 h => ?_))
  dsimp only [Option.toList, List.cons_append, List.nil_append]
  refine x_aload_n dL_kept_279 rfl ?_
  refine x_iconst (v := nI 2) dL_kept_280 (by decide) ?_
  refine x_cX (c9 := 1) (s9 := 6) (As := [_, _]) hO dL_kept_281 o_L_about s_L_about l_L_103 ⟨by decide, by decide⟩ ⟨rfl, rfl⟩ ⟨by omega, by omega⟩ rfl rfl (Nat.le_of_ble_eq_true rfl) (q_aboN hN hO hX hT (by decide) (z := ρ 0) rfl h (fun C1 h => ?_))
  dsimp only [Option.toList, List.cons_append, List.nil_append]
  refine x_ladd dL_kept_284 ?_
  rw [lN_add (hrs ρ i) (ρ 0)]
  refine x_ldc2 hO.1 dL_kept_285 k_L_192 ?_
  refine x_lrem dL_kept_288 (by decide) ?_
  rw [lrem24 (by omega), hrs_mod g6]
  refine x_aload_n dL_kept_289 rfl ?_
  refine x_iload dL_kept_290 rfl ?_
  refine x_iconst (v := nI 3) dL_kept_292 (by decide) ?_
  refine x_cX (c9 := 2) (s9 := 12) (As := [_, _, _]) hO dL_kept_293 o_L_bus s_L_bus l_L_110 ⟨by decide, by decide⟩ ⟨rfl, rfl⟩ ⟨by omega, by omega⟩ rfl rfl (Nat.le_of_ble_eq_true rfl) (q_busN hN hO hX hT hb (by decide) (by decide) (z := ρ (bi i 3)) rfl h (fun C1 h => ?_))
  dsimp only [Option.toList, List.cons_append, List.nil_append]
  refine x_lc_neN (tgt := 382) dL_kept_296 dL_kept_297 (by decide) rfl ?_
  refine x_aload_n dL_kept_300 rfl ?_
  refine x_iload dL_kept_301 rfl ?_
  refine x_bipush (v := nI 7) dL_kept_303 (by decide) ?_
  refine x_cX (c9 := 2) (s9 := 12) (As := [_, _, _]) hO dL_kept_305 o_L_bus s_L_bus l_L_110 ⟨by decide, by decide⟩ ⟨rfl, rfl⟩ ⟨by omega, by omega⟩ rfl rfl (Nat.le_of_ble_eq_true rfl) (q_busN hN hO hX hT hb (by decide) (by decide) (z := (pvw ρ).2.2.1 i) rfl h (fun C1 h => ?_))
  dsimp only [Option.toList, List.cons_append, List.nil_append]
  refine x_lconst (v := 0) dL_kept_308 (by decide) ?_
  refine x_lc_ltN (tgt := 382) dL_kept_309 dL_kept_310 (by decide) (lnn (by omega)) ?_
  refine x_ls [(0, .ref x), (1, .int (nI (ρ 1))), (2, .int (nI (ρ 2))), (3, .long (lN (sm (fun b => ρ (bi b 6)) (i + 1)))), (5, .long (lN (sm (f8N ρ) (i + 1)))), (7, .long (lN (sm (fun b => ρ (bi b 1)) (i + 1)))), (9, .long (lN (sm (pvw ρ).2.2.1 (i + 1)))), (11, .int (nI (mkN (pvw ρ).2.2.2.1 i))), (12, .int (nI 1)), (13, .int (nI i)), (14, .long (lN (ρ (bi i 0)))), (16, .long (lN (ρ (bi i 1)))), (18, .int (nI (ρ (bi i 6)))), (19, .int (nI (f8N ρ i))), (20, .int (eL ((pvw ρ).2.2.2.1 i)).toInt32)] ⟨rfl, rfl, rfl, rfl, rfl, (by rw [show sm (fun b => ρ (bi b 1)) (i + 1) = sm (fun b => ρ (bi b 1)) i + ρ (bi i 1) from rfl, ← lN_add]; rfl), (by rw [show sm (pvw ρ).2.2.1 (i + 1) = sm (pvw ρ).2.2.1 i + (pvw ρ).2.2.1 i from rfl, ← lN_add]; rfl), rfl, rfl, rfl, rfl, rfl, rfl, rfl, rfl, trivial⟩ ?_
  refine x_room (k := k0) (n := n0) (by omega) (by omega) ?_
  exact kk _ h

theorem kp_D {G : GT} {C : AH} {Q : QT} {C0 : AH} {sa va : Nat → Nat} {x T n i k0 n0 : Nat} {S : Nat → Nat} {ρ : Rw} {L : List Rw} {K : Nat → Option Rw} (hN : GN G) (hO : GO G) (hX : GX G sa va) (hT : T ≤ 40000) (hb : i < ρ 1) (h : RF T C0 C x (S, n, ρ, L, K)) (kk : ∀ C' : AH, RF T C0 C' x (S, n, ρ, L, K) → Ex G M_L_kept Q NX (k0) (n0) 404 [(0, .ref x), (1, .int (nI (ρ 1))), (2, .int (nI (ρ 2))), (3, .long (lN (sm (fun b => ρ (bi b 6)) (i + 1)))), (5, .long (lN (sm (f8N ρ) (i + 1)))), (7, .long (lN (sm (fun b => ρ (bi b 1)) (i + 1)))), (9, .long (lN (sm (pvw ρ).2.2.1 (i + 1)))), (11, .int (nI (mkN (pvw ρ).2.2.2.1 (i + 1)))), (12, .int (nI 1)), (13, .int (nI i)), (14, .long (lN (ρ (bi i 0)))), (16, .long (lN (ρ (bi i 1)))), (18, .int (nI (ρ (bi i 6)))), (19, .int (nI (f8N ρ i)))] [] C') : Ex G M_L_kept Q NX (6 + k0) (36 + n0) 313 [(0, .ref x), (1, .int (nI (ρ 1))), (2, .int (nI (ρ 2))), (3, .long (lN (sm (fun b => ρ (bi b 6)) (i + 1)))), (5, .long (lN (sm (f8N ρ) (i + 1)))), (7, .long (lN (sm (fun b => ρ (bi b 1)) (i + 1)))), (9, .long (lN (sm (pvw ρ).2.2.1 (i + 1)))), (11, .int (nI (mkN (pvw ρ).2.2.2.1 i))), (12, .int (nI 1)), (13, .int (nI i)), (14, .long (lN (ρ (bi i 0)))), (16, .long (lN (ρ (bi i 1)))), (18, .int (nI (ρ (bi i 6)))), (19, .int (nI (f8N ρ i))), (20, .int (eL ((pvw ρ).2.2.2.1 i)).toInt32)] [] C := by
  have hk : Ok T ρ := h.1.1.1
  obtain ⟨hW, hB⟩ := id hk
  obtain ⟨w1, w2, w7, w8, w9, w10, w11, w11', w12, wB, wP⟩ := id hW
  obtain ⟨g1, g2, g3, g4, g5, g6, g7, g8, g9⟩ := wB i hb
  have hu := (pvw_un (j := i) hW).1
  obtain ⟨hm5, hbit⟩ := mkN_ok (f := (pvw ρ).2.2.2.1) (i := i) fun b c _ q => by have := ((pvw_pl hW).1 b c q).1; omega
  cases hp : (pvw ρ).2.2.2.1 i with
  | none =>
    refine x_ls [(0, .ref x), (1, .int (nI (ρ 1))), (2, .int (nI (ρ 2))), (3, .long (lN (sm (fun b => ρ (bi b 6)) (i + 1)))), (5, .long (lN (sm (f8N ρ) (i + 1)))), (7, .long (lN (sm (fun b => ρ (bi b 1)) (i + 1)))), (9, .long (lN (sm (pvw ρ).2.2.1 (i + 1)))), (11, .int (nI (mkN (pvw ρ).2.2.2.1 i))), (12, .int (nI 1)), (13, .int (nI i)), (14, .long (lN (ρ (bi i 0)))), (16, .long (lN (ρ (bi i 1)))), (18, .int (nI (ρ (bi i 6)))), (19, .int (nI (f8N ρ i))), (20, .int (-1))] ⟨rfl, rfl, rfl, rfl, rfl, rfl, rfl, rfl, rfl, rfl, rfl, rfl, rfl, rfl, rfl, trivial⟩ ?_
    refine x_iload dL_kept_313 rfl ?_
    refine x_iconst (v := (-1)) dL_kept_315 (by decide) ?_
    refine x_icmp_neN (tgt := 335) dL_kept_316 (by decide) rfl ?_
    refine x_aload_n dL_kept_319 rfl ?_
    refine x_iload dL_kept_320 rfl ?_
    refine x_bipush (v := nI 7) dL_kept_322 (by decide) ?_
    refine x_cX (c9 := 2) (s9 := 12) (As := [_, _, _]) hO dL_kept_324 o_L_bus s_L_bus l_L_110 ⟨by decide, by decide⟩ ⟨rfl, rfl⟩ ⟨by omega, by omega⟩ rfl rfl (Nat.le_of_ble_eq_true rfl) (q_busN hN hO hX hT hb (by decide) (by decide) (z := (pvw ρ).2.2.1 i) rfl h (fun C1 h => ?_))
    dsimp only [Option.toList, List.cons_append, List.nil_append]
    refine x_lconst (v := 0) dL_kept_327 (by decide) ?_
    refine x_lc_neN (tgt := 382) dL_kept_328 dL_kept_329 (by decide) (congrArg lN (pvw_none hp)) ?_
    refine x_goto (tgt := 378) dL_kept_332 (by decide) ?_
    refine x_iconst (v := nI 1) dL_kept_378 (by decide) ?_
    refine x_goto (tgt := 383) dL_kept_379 (by decide) ?_
    refine x_istore dL_kept_383 (by decide) ?_
    refine x_iload dL_kept_385 rfl ?_
    refine x_iload dL_kept_387 rfl ?_
    refine x_iconst (v := (-1)) dL_kept_389 (by decide) ?_
    refine x_icmp_neN (tgt := 397) dL_kept_390 (by decide) rfl ?_
    refine x_iconst (v := nI 0) dL_kept_393 (by decide) ?_
    refine x_goto (tgt := 401) dL_kept_394 (by decide) ?_
    refine x_ior dL_kept_401 ?_
    rw [bit_0 hm5]
    refine x_istore dL_kept_402 (by decide) ?_
    refine x_ls [(0, .ref x), (1, .int (nI (ρ 1))), (2, .int (nI (ρ 2))), (3, .long (lN (sm (fun b => ρ (bi b 6)) (i + 1)))), (5, .long (lN (sm (f8N ρ) (i + 1)))), (7, .long (lN (sm (fun b => ρ (bi b 1)) (i + 1)))), (9, .long (lN (sm (pvw ρ).2.2.1 (i + 1)))), (11, .int (nI (mkN (pvw ρ).2.2.2.1 (i + 1)))), (12, .int (nI 1)), (13, .int (nI i)), (14, .long (lN (ρ (bi i 0)))), (16, .long (lN (ρ (bi i 1)))), (18, .int (nI (ρ (bi i 6)))), (19, .int (nI (f8N ρ i)))] ⟨rfl, rfl, rfl, rfl, rfl, rfl, rfl, (by rw [mkN_none hp]; rfl), rfl, rfl, rfl, rfl, rfl, rfl, trivial⟩ ?_
    refine x_room (k := k0) (n := n0) (by omega) (by omega) ?_
    exact kk _ h
  | some c =>
    obtain ⟨hc, hp2⟩ := (pvw_pl hW).1 i c hp
    have hPc := wP c hc
    have hno : ¬ (mkN (pvw ρ).2.2.2.1 i).testBit c = true := fun q => by
      obtain ⟨b, hb9, hf⟩ := (hbit c).mp q
      have := ((pvw_pl hW).1 b c hf).2
      rw [hp2] at this
      have := Option.some.inj this
      omega
    refine x_ls [(0, .ref x), (1, .int (nI (ρ 1))), (2, .int (nI (ρ 2))), (3, .long (lN (sm (fun b => ρ (bi b 6)) (i + 1)))), (5, .long (lN (sm (f8N ρ) (i + 1)))), (7, .long (lN (sm (fun b => ρ (bi b 1)) (i + 1)))), (9, .long (lN (sm (pvw ρ).2.2.1 (i + 1)))), (11, .int (nI (mkN (pvw ρ).2.2.2.1 i))), (12, .int (nI 1)), (13, .int (nI i)), (14, .long (lN (ρ (bi i 0)))), (16, .long (lN (ρ (bi i 1)))), (18, .int (nI (ρ (bi i 6)))), (19, .int (nI (f8N ρ i))), (20, .int (nI c))] ⟨rfl, rfl, rfl, rfl, rfl, rfl, rfl, rfl, rfl, rfl, rfl, rfl, rfl, rfl, (congrArg (fun q => some (Value.int q)) (lN_i c)), trivial⟩ ?_
    refine x_iload dL_kept_313 rfl ?_
    refine x_iconst (v := (-1)) dL_kept_315 (by decide) ?_
    refine x_icmp_neT (tgt := 335) dL_kept_316 (by decide) (nI_m1 (by omega)) ?_
    refine x_aload_n dL_kept_335 rfl ?_
    refine x_iload dL_kept_336 rfl ?_
    refine x_iconst (v := nI 2) dL_kept_338 (by decide) ?_
    refine x_cX (c9 := 2) (s9 := 12) (As := [_, _, _]) hO dL_kept_339 o_L_charger s_L_charger l_L_113 ⟨by decide, by decide⟩ ⟨rfl, rfl⟩ ⟨by omega, by omega⟩ rfl rfl (Nat.le_of_ble_eq_true rfl) (q_chg2 hN hO hX hT hc (v := lN i) (by rw [hp2]; rfl) h (fun C1 h => ?_))
    dsimp only [Option.toList, List.cons_append, List.nil_append]
    refine x_iload dL_kept_342 rfl ?_
    refine x_i2l dL_kept_344 ?_
    rw [nI_l (show i < 2 ^ 31 by omega)]
    refine x_lc_neN (tgt := 382) dL_kept_345 dL_kept_346 (by decide) rfl ?_
    refine x_aload_n dL_kept_349 rfl ?_
    refine x_iload dL_kept_350 rfl ?_
    refine x_bipush (v := nI 7) dL_kept_352 (by decide) ?_
    refine x_cX (c9 := 2) (s9 := 12) (As := [_, _, _]) hO dL_kept_354 o_L_bus s_L_bus l_L_110 ⟨by decide, by decide⟩ ⟨rfl, rfl⟩ ⟨by omega, by omega⟩ rfl rfl (Nat.le_of_ble_eq_true rfl) (q_busN hN hO hX hT hb (by decide) (by decide) (z := (pvw ρ).2.2.1 i) rfl h (fun C1 h => ?_))
    dsimp only [Option.toList, List.cons_append, List.nil_append]
    refine x_aload_n dL_kept_357 rfl ?_
    refine x_iload dL_kept_358 rfl ?_
    refine x_iconst (v := nI 0) dL_kept_360 (by decide) ?_
    refine x_cX (c9 := 2) (s9 := 12) (As := [_, _, _]) hO dL_kept_361 o_L_charger s_L_charger l_L_113 ⟨by decide, by decide⟩ ⟨rfl, rfl⟩ ⟨by omega, by omega⟩ rfl rfl (Nat.le_of_ble_eq_true rfl) (q_chgN hN hO hX hT hc (by decide) (z := ρ (69 + c)) rfl h (fun C1 h => ?_))
    dsimp only [Option.toList, List.cons_append, List.nil_append]
    refine x_lc_gtN (tgt := 382) dL_kept_364 dL_kept_365 (by decide) (fun q => Nat.not_le_of_lt ((pk_lLT (by omega) (by omega)).mp q) (pvw_pow hW hp)) ?_
    refine x_iload dL_kept_368 rfl ?_
    refine x_iload dL_kept_370 rfl ?_
    refine x_ishr dL_kept_372 ?_
    refine x_iconst (v := nI 1) dL_kept_373 (by decide) ?_
    refine x_iand dL_kept_374 ?_
    rw [bit_q hm5 (by omega)]
    refine x_if_neN (tgt := 382) dL_kept_375 (by decide) (if_neg hno) ?_
    refine x_iconst (v := nI 1) dL_kept_378 (by decide) ?_
    refine x_goto (tgt := 383) dL_kept_379 (by decide) ?_
    refine x_istore dL_kept_383 (by decide) ?_
    refine x_iload dL_kept_385 rfl ?_
    refine x_iload dL_kept_387 rfl ?_
    refine x_iconst (v := (-1)) dL_kept_389 (by decide) ?_
    refine x_icmp_neT (tgt := 397) dL_kept_390 (by decide) (nI_m1 (by omega)) ?_
    refine x_iconst (v := nI 1) dL_kept_397 (by decide) ?_
    refine x_iload dL_kept_398 rfl ?_
    refine x_ishl dL_kept_400 ?_
    refine x_ior dL_kept_401 ?_
    rw [bit_s hm5 (by omega)]
    refine x_istore dL_kept_402 (by decide) ?_
    refine x_ls [(0, .ref x), (1, .int (nI (ρ 1))), (2, .int (nI (ρ 2))), (3, .long (lN (sm (fun b => ρ (bi b 6)) (i + 1)))), (5, .long (lN (sm (f8N ρ) (i + 1)))), (7, .long (lN (sm (fun b => ρ (bi b 1)) (i + 1)))), (9, .long (lN (sm (pvw ρ).2.2.1 (i + 1)))), (11, .int (nI (mkN (pvw ρ).2.2.2.1 (i + 1)))), (12, .int (nI 1)), (13, .int (nI i)), (14, .long (lN (ρ (bi i 0)))), (16, .long (lN (ρ (bi i 1)))), (18, .int (nI (ρ (bi i 6)))), (19, .int (nI (f8N ρ i)))] ⟨rfl, rfl, rfl, rfl, rfl, rfl, rfl, (by rw [mkN_some hp]; rfl), rfl, rfl, rfl, rfl, rfl, rfl, trivial⟩ ?_
    refine x_room (k := k0) (n := n0) (by omega) (by omega) ?_
    exact kk _ h

theorem kp_E {G : GT} {C : AH} {Q : QT} {C0 : AH} {sa va : Nat → Nat} {x T n i k0 n0 : Nat} {S : Nat → Nat} {ρ : Rw} {L : List Rw} {K : Nat → Option Rw} (hN : GN G) (hO : GO G) (hX : GX G sa va) (hT : T ≤ 40000) (hb : i < ρ 1) (h : RF T C0 C x (S, n, ρ, L, K)) (kk : ∀ C' : AH, RF T C0 C' x (S, n, ρ, L, K) → Ex G M_L_kept Q NX (k0) (n0) 62 [(0, .ref x), (1, .int (nI (ρ 1))), (2, .int (nI (ρ 2))), (3, .long (lN (sm (fun b => ρ (bi b 6)) (i + 1)))), (5, .long (lN (sm (f8N ρ) (i + 1)))), (7, .long (lN (sm (fun b => ρ (bi b 1)) (i + 1)))), (9, .long (lN (sm (pvw ρ).2.2.1 (i + 1)))), (11, .int (nI (mkN (pvw ρ).2.2.2.1 (i + 1)))), (12, .int (nI 1)), (13, .int (nI (i + 1)))] [] C') : Ex G M_L_kept Q NX (100 + k0) (800 + n0) 404 [(0, .ref x), (1, .int (nI (ρ 1))), (2, .int (nI (ρ 2))), (3, .long (lN (sm (fun b => ρ (bi b 6)) (i + 1)))), (5, .long (lN (sm (f8N ρ) (i + 1)))), (7, .long (lN (sm (fun b => ρ (bi b 1)) (i + 1)))), (9, .long (lN (sm (pvw ρ).2.2.1 (i + 1)))), (11, .int (nI (mkN (pvw ρ).2.2.2.1 (i + 1)))), (12, .int (nI 1)), (13, .int (nI i)), (14, .long (lN (ρ (bi i 0)))), (16, .long (lN (ρ (bi i 1)))), (18, .int (nI (ρ (bi i 6)))), (19, .int (nI (f8N ρ i)))] [] C := by
  have hk : Ok T ρ := h.1.1.1
  obtain ⟨hW, hB⟩ := id hk
  obtain ⟨w1, w2, w7, w8, w9, w10, w11, w11', w12, wB, wP⟩ := id hW
  obtain ⟨g1, g2, g3, g4, g5, g6, g7, g8, g9⟩ := wB i hb
  rcases (show ρ (bi i 6) = 1 ∨ ρ (bi i 6) = 0 by omega) with ho | ho
  · have w8 : f8N ρ i = 0 := if_neg fun q => by omega
    refine x_ls [(0, .ref x), (1, .int (nI (ρ 1))), (2, .int (nI (ρ 2))), (3, .long (lN (sm (fun b => ρ (bi b 6)) (i + 1)))), (5, .long (lN (sm (f8N ρ) (i + 1)))), (7, .long (lN (sm (fun b => ρ (bi b 1)) (i + 1)))), (9, .long (lN (sm (pvw ρ).2.2.1 (i + 1)))), (11, .int (nI (mkN (pvw ρ).2.2.2.1 (i + 1)))), (12, .int (nI 1)), (13, .int (nI i)), (14, .long (lN (ρ (bi i 0)))), (16, .long (lN (ρ (bi i 1)))), (18, .int (nI 1)), (19, .int (nI (f8N ρ i)))] ⟨rfl, rfl, rfl, rfl, rfl, rfl, rfl, rfl, rfl, rfl, rfl, rfl, (by rw [ho]; rfl), (by rw [w8]; rfl), trivial⟩ ?_
    refine x_iload dL_kept_404 rfl ?_
    refine x_if_eqN (tgt := 473) dL_kept_406 (by decide) (by decide) ?_
    refine x_aload_n dL_kept_409 rfl ?_
    refine x_iload dL_kept_410 rfl ?_
    refine x_cS (c9 := 100) (s9 := 800) (As := [_, _]) hO dL_kept_412 o_L_read s_L_read l_L_194 ⟨by decide, by decide⟩ ⟨rfl, rfl⟩ ⟨by omega, by omega⟩ rfl rfl (Nat.le_of_ble_eq_true rfl) (m_read hN hO hX hT hb h (fun C1 h => ?_))
    dsimp only [Option.toList, List.cons_append, List.nil_append]
    refine x_ldc2 hO.1 dL_kept_415 k_L_180 ?_
    refine x_lload dL_kept_418 rfl ?_
    refine x_lmul dL_kept_420 ?_
    refine x_ldc2 hO.1 dL_kept_421 k_L_182 ?_
    refine x_lload dL_kept_424 rfl ?_
    refine x_lmul dL_kept_426 ?_
    refine x_ladd dL_kept_427 ?_
    refine x_iload dL_kept_428 rfl ?_
    refine x_if_eqN (tgt := 438) dL_kept_430 (by decide) (by decide) ?_
    refine x_bipush (v := nI 111) dL_kept_433 (by decide) ?_
    refine x_goto (tgt := 463) dL_kept_435 (by decide) ?_
    refine x_i2l dL_kept_463 ?_
    refine x_ladd dL_kept_464 ?_
    refine x_lc_neN (tgt := 473) dL_kept_465 dL_kept_466 (by decide) (by
  show lN (rdN ρ i) = lN 1000000 * lN (ρ (bi i 1)) + lN 1000 * lN (ρ (bi i 0)) + (nI 111).toInt64
  rw [lN_mul, lN_mul, lN_add, nI_l (by decide), lN_add]
  unfold rdN
  rw [show wdi ρ i = 4 from if_pos ho]
  rfl) ?_
    refine x_iconst (v := nI 1) dL_kept_469 (by decide) ?_
    refine x_goto (tgt := 474) dL_kept_470 (by decide) ?_
    refine x_istore dL_kept_474 (by decide) ?_
    refine x_iinc (v := nI 1) dL_kept_476 rfl (by decide) (by decide) ?_
    refine x_goto (tgt := 62) dL_kept_479 (by decide) ?_
    refine x_ls [(0, .ref x), (1, .int (nI (ρ 1))), (2, .int (nI (ρ 2))), (3, .long (lN (sm (fun b => ρ (bi b 6)) (i + 1)))), (5, .long (lN (sm (f8N ρ) (i + 1)))), (7, .long (lN (sm (fun b => ρ (bi b 1)) (i + 1)))), (9, .long (lN (sm (pvw ρ).2.2.1 (i + 1)))), (11, .int (nI (mkN (pvw ρ).2.2.2.1 (i + 1)))), (12, .int (nI 1)), (13, .int (nI (i + 1)))] ⟨rfl, rfl, rfl, rfl, rfl, rfl, rfl, rfl, rfl, (by rw [← nI_add]; rfl), trivial⟩ ?_
    refine x_room (k := k0) (n := n0) (by omega) (by omega) ?_
    exact kk _ h
  have ho1 : ¬ ρ (bi i 6) = 1 := by omega
  by_cases hl : ρ (bi i 1) < ρ (bi i 2)
  · have w8 : f8N ρ i = 1 := if_pos ⟨ho, hl⟩
    refine x_ls [(0, .ref x), (1, .int (nI (ρ 1))), (2, .int (nI (ρ 2))), (3, .long (lN (sm (fun b => ρ (bi b 6)) (i + 1)))), (5, .long (lN (sm (f8N ρ) (i + 1)))), (7, .long (lN (sm (fun b => ρ (bi b 1)) (i + 1)))), (9, .long (lN (sm (pvw ρ).2.2.1 (i + 1)))), (11, .int (nI (mkN (pvw ρ).2.2.2.1 (i + 1)))), (12, .int (nI 1)), (13, .int (nI i)), (14, .long (lN (ρ (bi i 0)))), (16, .long (lN (ρ (bi i 1)))), (18, .int (nI 0)), (19, .int (nI 1))] ⟨rfl, rfl, rfl, rfl, rfl, rfl, rfl, rfl, rfl, rfl, rfl, rfl, (by rw [ho]; rfl), (by rw [w8]; rfl), trivial⟩ ?_
    refine x_iload dL_kept_404 rfl ?_
    refine x_if_eqN (tgt := 473) dL_kept_406 (by decide) (by decide) ?_
    refine x_aload_n dL_kept_409 rfl ?_
    refine x_iload dL_kept_410 rfl ?_
    refine x_cS (c9 := 100) (s9 := 800) (As := [_, _]) hO dL_kept_412 o_L_read s_L_read l_L_194 ⟨by decide, by decide⟩ ⟨rfl, rfl⟩ ⟨by omega, by omega⟩ rfl rfl (Nat.le_of_ble_eq_true rfl) (m_read hN hO hX hT hb h (fun C1 h => ?_))
    dsimp only [Option.toList, List.cons_append, List.nil_append]
    refine x_ldc2 hO.1 dL_kept_415 k_L_180 ?_
    refine x_lload dL_kept_418 rfl ?_
    refine x_lmul dL_kept_420 ?_
    refine x_ldc2 hO.1 dL_kept_421 k_L_182 ?_
    refine x_lload dL_kept_424 rfl ?_
    refine x_lmul dL_kept_426 ?_
    refine x_ladd dL_kept_427 ?_
    refine x_iload dL_kept_428 rfl ?_
    refine x_if_eqT (tgt := 438) dL_kept_430 (by decide) rfl ?_
    refine x_iload dL_kept_438 rfl ?_
    refine x_if_eqN (tgt := 448) dL_kept_440 (by decide) (by decide) ?_
    refine x_bipush (v := nI 108) dL_kept_443 (by decide) ?_
    refine x_goto (tgt := 463) dL_kept_445 (by decide) ?_
    refine x_i2l dL_kept_463 ?_
    refine x_ladd dL_kept_464 ?_
    refine x_lc_neN (tgt := 473) dL_kept_465 dL_kept_466 (by decide) (by
  show lN (rdN ρ i) = lN 1000000 * lN (ρ (bi i 1)) + lN 1000 * lN (ρ (bi i 0)) + (nI 108).toInt64
  rw [lN_mul, lN_mul, lN_add, nI_l (by decide), lN_add]
  unfold rdN
  rw [show wdi ρ i = 5 from (if_neg ho1).trans (if_pos hl)]
  rfl) ?_
    refine x_iconst (v := nI 1) dL_kept_469 (by decide) ?_
    refine x_goto (tgt := 474) dL_kept_470 (by decide) ?_
    refine x_istore dL_kept_474 (by decide) ?_
    refine x_iinc (v := nI 1) dL_kept_476 rfl (by decide) (by decide) ?_
    refine x_goto (tgt := 62) dL_kept_479 (by decide) ?_
    refine x_ls [(0, .ref x), (1, .int (nI (ρ 1))), (2, .int (nI (ρ 2))), (3, .long (lN (sm (fun b => ρ (bi b 6)) (i + 1)))), (5, .long (lN (sm (f8N ρ) (i + 1)))), (7, .long (lN (sm (fun b => ρ (bi b 1)) (i + 1)))), (9, .long (lN (sm (pvw ρ).2.2.1 (i + 1)))), (11, .int (nI (mkN (pvw ρ).2.2.2.1 (i + 1)))), (12, .int (nI 1)), (13, .int (nI (i + 1)))] ⟨rfl, rfl, rfl, rfl, rfl, rfl, rfl, rfl, rfl, (by rw [← nI_add]; rfl), trivial⟩ ?_
    refine x_room (k := k0) (n := n0) (by omega) (by omega) ?_
    exact kk _ h
  have w8 : f8N ρ i = 0 := if_neg fun q => hl q.2
  by_cases hf : ρ (bi i 1) = ρ (bi i 0)
  · skip
    refine x_ls [(0, .ref x), (1, .int (nI (ρ 1))), (2, .int (nI (ρ 2))), (3, .long (lN (sm (fun b => ρ (bi b 6)) (i + 1)))), (5, .long (lN (sm (f8N ρ) (i + 1)))), (7, .long (lN (sm (fun b => ρ (bi b 1)) (i + 1)))), (9, .long (lN (sm (pvw ρ).2.2.1 (i + 1)))), (11, .int (nI (mkN (pvw ρ).2.2.2.1 (i + 1)))), (12, .int (nI 1)), (13, .int (nI i)), (14, .long (lN (ρ (bi i 0)))), (16, .long (lN (ρ (bi i 1)))), (18, .int (nI 0)), (19, .int (nI 0))] ⟨rfl, rfl, rfl, rfl, rfl, rfl, rfl, rfl, rfl, rfl, rfl, rfl, (by rw [ho]; rfl), (by rw [w8]; rfl), trivial⟩ ?_
    refine x_iload dL_kept_404 rfl ?_
    refine x_if_eqN (tgt := 473) dL_kept_406 (by decide) (by decide) ?_
    refine x_aload_n dL_kept_409 rfl ?_
    refine x_iload dL_kept_410 rfl ?_
    refine x_cS (c9 := 100) (s9 := 800) (As := [_, _]) hO dL_kept_412 o_L_read s_L_read l_L_194 ⟨by decide, by decide⟩ ⟨rfl, rfl⟩ ⟨by omega, by omega⟩ rfl rfl (Nat.le_of_ble_eq_true rfl) (m_read hN hO hX hT hb h (fun C1 h => ?_))
    dsimp only [Option.toList, List.cons_append, List.nil_append]
    refine x_ldc2 hO.1 dL_kept_415 k_L_180 ?_
    refine x_lload dL_kept_418 rfl ?_
    refine x_lmul dL_kept_420 ?_
    refine x_ldc2 hO.1 dL_kept_421 k_L_182 ?_
    refine x_lload dL_kept_424 rfl ?_
    refine x_lmul dL_kept_426 ?_
    refine x_ladd dL_kept_427 ?_
    refine x_iload dL_kept_428 rfl ?_
    refine x_if_eqT (tgt := 438) dL_kept_430 (by decide) rfl ?_
    refine x_iload dL_kept_438 rfl ?_
    refine x_if_eqT (tgt := 448) dL_kept_440 (by decide) rfl ?_
    refine x_lload dL_kept_448 rfl ?_
    refine x_lload dL_kept_450 rfl ?_
    refine x_lc_neN (tgt := 461) dL_kept_452 dL_kept_453 (by decide) (congrArg lN hf) ?_
    refine x_bipush (v := nI 102) dL_kept_456 (by decide) ?_
    refine x_goto (tgt := 463) dL_kept_458 (by decide) ?_
    refine x_i2l dL_kept_463 ?_
    refine x_ladd dL_kept_464 ?_
    refine x_lc_neN (tgt := 473) dL_kept_465 dL_kept_466 (by decide) (by
  show lN (rdN ρ i) = lN 1000000 * lN (ρ (bi i 1)) + lN 1000 * lN (ρ (bi i 0)) + (nI 102).toInt64
  rw [lN_mul, lN_mul, lN_add, nI_l (by decide), lN_add]
  unfold rdN
  rw [show wdi ρ i = 6 from (if_neg ho1).trans ((if_neg hl).trans (if_pos hf))]
  rfl) ?_
    refine x_iconst (v := nI 1) dL_kept_469 (by decide) ?_
    refine x_goto (tgt := 474) dL_kept_470 (by decide) ?_
    refine x_istore dL_kept_474 (by decide) ?_
    refine x_iinc (v := nI 1) dL_kept_476 rfl (by decide) (by decide) ?_
    refine x_goto (tgt := 62) dL_kept_479 (by decide) ?_
    refine x_ls [(0, .ref x), (1, .int (nI (ρ 1))), (2, .int (nI (ρ 2))), (3, .long (lN (sm (fun b => ρ (bi b 6)) (i + 1)))), (5, .long (lN (sm (f8N ρ) (i + 1)))), (7, .long (lN (sm (fun b => ρ (bi b 1)) (i + 1)))), (9, .long (lN (sm (pvw ρ).2.2.1 (i + 1)))), (11, .int (nI (mkN (pvw ρ).2.2.2.1 (i + 1)))), (12, .int (nI 1)), (13, .int (nI (i + 1)))] ⟨rfl, rfl, rfl, rfl, rfl, rfl, rfl, rfl, rfl, (by rw [← nI_add]; rfl), trivial⟩ ?_
    refine x_room (k := k0) (n := n0) (by omega) (by omega) ?_
    exact kk _ h
  · skip
    refine x_ls [(0, .ref x), (1, .int (nI (ρ 1))), (2, .int (nI (ρ 2))), (3, .long (lN (sm (fun b => ρ (bi b 6)) (i + 1)))), (5, .long (lN (sm (f8N ρ) (i + 1)))), (7, .long (lN (sm (fun b => ρ (bi b 1)) (i + 1)))), (9, .long (lN (sm (pvw ρ).2.2.1 (i + 1)))), (11, .int (nI (mkN (pvw ρ).2.2.2.1 (i + 1)))), (12, .int (nI 1)), (13, .int (nI i)), (14, .long (lN (ρ (bi i 0)))), (16, .long (lN (ρ (bi i 1)))), (18, .int (nI 0)), (19, .int (nI 0))] ⟨rfl, rfl, rfl, rfl, rfl, rfl, rfl, rfl, rfl, rfl, rfl, rfl, (by rw [ho]; rfl), (by rw [w8]; rfl), trivial⟩ ?_
    refine x_iload dL_kept_404 rfl ?_
    refine x_if_eqN (tgt := 473) dL_kept_406 (by decide) (by decide) ?_
    refine x_aload_n dL_kept_409 rfl ?_
    refine x_iload dL_kept_410 rfl ?_
    refine x_cS (c9 := 100) (s9 := 800) (As := [_, _]) hO dL_kept_412 o_L_read s_L_read l_L_194 ⟨by decide, by decide⟩ ⟨rfl, rfl⟩ ⟨by omega, by omega⟩ rfl rfl (Nat.le_of_ble_eq_true rfl) (m_read hN hO hX hT hb h (fun C1 h => ?_))
    dsimp only [Option.toList, List.cons_append, List.nil_append]
    refine x_ldc2 hO.1 dL_kept_415 k_L_180 ?_
    refine x_lload dL_kept_418 rfl ?_
    refine x_lmul dL_kept_420 ?_
    refine x_ldc2 hO.1 dL_kept_421 k_L_182 ?_
    refine x_lload dL_kept_424 rfl ?_
    refine x_lmul dL_kept_426 ?_
    refine x_ladd dL_kept_427 ?_
    refine x_iload dL_kept_428 rfl ?_
    refine x_if_eqT (tgt := 438) dL_kept_430 (by decide) rfl ?_
    refine x_iload dL_kept_438 rfl ?_
    refine x_if_eqT (tgt := 448) dL_kept_440 (by decide) rfl ?_
    refine x_lload dL_kept_448 rfl ?_
    refine x_lload dL_kept_450 rfl ?_
    refine x_lc_neT (tgt := 461) dL_kept_452 dL_kept_453 (by decide) (fun q => hf ((pk_lEQ (by omega) (by omega)).mp q)) ?_
    refine x_bipush (v := nI 112) dL_kept_461 (by decide) ?_
    refine x_i2l dL_kept_463 ?_
    refine x_ladd dL_kept_464 ?_
    refine x_lc_neN (tgt := 473) dL_kept_465 dL_kept_466 (by decide) (by
  show lN (rdN ρ i) = lN 1000000 * lN (ρ (bi i 1)) + lN 1000 * lN (ρ (bi i 0)) + (nI 112).toInt64
  rw [lN_mul, lN_mul, lN_add, nI_l (by decide), lN_add]
  unfold rdN
  rw [show wdi ρ i = 7 from (if_neg ho1).trans ((if_neg hl).trans (if_neg hf))]
  rfl) ?_
    refine x_iconst (v := nI 1) dL_kept_469 (by decide) ?_
    refine x_goto (tgt := 474) dL_kept_470 (by decide) ?_
    refine x_istore dL_kept_474 (by decide) ?_
    refine x_iinc (v := nI 1) dL_kept_476 rfl (by decide) (by decide) ?_
    refine x_goto (tgt := 62) dL_kept_479 (by decide) ?_
    refine x_ls [(0, .ref x), (1, .int (nI (ρ 1))), (2, .int (nI (ρ 2))), (3, .long (lN (sm (fun b => ρ (bi b 6)) (i + 1)))), (5, .long (lN (sm (f8N ρ) (i + 1)))), (7, .long (lN (sm (fun b => ρ (bi b 1)) (i + 1)))), (9, .long (lN (sm (pvw ρ).2.2.1 (i + 1)))), (11, .int (nI (mkN (pvw ρ).2.2.2.1 (i + 1)))), (12, .int (nI 1)), (13, .int (nI (i + 1)))] ⟨rfl, rfl, rfl, rfl, rfl, rfl, rfl, rfl, rfl, (by rw [← nI_add]; rfl), trivial⟩ ?_
    refine x_room (k := k0) (n := n0) (by omega) (by omega) ?_
    exact kk _ h

theorem kp_1 {G : GT} {Q : QT} {C0 : AH} {sa va : Nat → Nat} {x T n : Nat} {S : Nat → Nat} {ρ : Rw} {L : List Rw} {K : Nat → Option Rw} {k0 n0 : Nat} (hN : GN G) (hO : GO G) (hX : GX G sa va) (hT : T ≤ 40000) (h8 : ρ 1 ≤ 8) : ∀ (m i : Nat) (C : AH), m + i = ρ 1 → RF T C0 C x (S, n, ρ, L, K) → (∀ C' : AH, RF T C0 C' x (S, n, ρ, L, K) → Ex G M_L_kept Q NX (k0) (n0) 482 [(0, .ref x), (1, .int (nI (ρ 1))), (2, .int (nI (ρ 2))), (3, .long (lN (sm (fun b => ρ (bi b 6)) (ρ 1)))), (5, .long (lN (sm (f8N ρ) (ρ 1)))), (7, .long (lN (sm (fun b => ρ (bi b 1)) (ρ 1)))), (9, .long (lN (sm (pvw ρ).2.2.1 (ρ 1)))), (11, .int (nI (mkN (pvw ρ).2.2.2.1 (ρ 1)))), (12, .int (nI 1))] [] C') → Ex G M_L_kept Q NX (140 * m + k0) (1040 * m + n0) 62 [(0, .ref x), (1, .int (nI (ρ 1))), (2, .int (nI (ρ 2))), (3, .long (lN (sm (fun b => ρ (bi b 6)) i))), (5, .long (lN (sm (f8N ρ) i))), (7, .long (lN (sm (fun b => ρ (bi b 1)) i))), (9, .long (lN (sm (pvw ρ).2.2.1 i))), (11, .int (nI (mkN (pvw ρ).2.2.2.1 i))), (12, .int (nI 1)), (13, .int (nI i))] [] C := by
  intro m
  induction m with
  | zero =>
    intro i C hi h kk
    have hi9 : i = ρ 1 := by omega
    refine x_iload dL_kept_62 rfl ?_
    refine x_iload_n dL_kept_64 rfl ?_
    refine x_icmp_geT (tgt := 482) dL_kept_65 (by decide) (nI_le (by omega) (by omega)) ?_
    refine x_room (k := k0) (n := n0) (by omega) (by omega) ?_
    subst hi9
    refine x_ls [(0, .ref x), (1, .int (nI (ρ 1))), (2, .int (nI (ρ 2))), (3, .long (lN (sm (fun b => ρ (bi b 6)) (ρ 1)))), (5, .long (lN (sm (f8N ρ) (ρ 1)))), (7, .long (lN (sm (fun b => ρ (bi b 1)) (ρ 1)))), (9, .long (lN (sm (pvw ρ).2.2.1 (ρ 1)))), (11, .int (nI (mkN (pvw ρ).2.2.2.1 (ρ 1)))), (12, .int (nI 1))] ⟨rfl, rfl, rfl, rfl, rfl, rfl, rfl, rfl, rfl, trivial⟩ ?_
    exact kk C h
  | succ m ih =>
    intro i C hi h kk
    have hb : i < ρ 1 := by omega
    refine x_iload dL_kept_62 rfl ?_
    refine x_iload_n dL_kept_64 rfl ?_
    refine x_icmp_geN (tgt := 482) dL_kept_65 (by decide) (nI_ge (by omega) (by omega)) ?_
    refine x_iload dL_kept_68 rfl ?_
    refine x_if_eqN (tgt := 482) dL_kept_70 (by decide) (by decide) ?_
    refine x_ls [(0, .ref x), (1, .int (nI (ρ 1))), (2, .int (nI (ρ 2))), (3, .long (lN (sm (fun b => ρ (bi b 6)) i))), (5, .long (lN (sm (f8N ρ) i))), (7, .long (lN (sm (fun b => ρ (bi b 1)) i))), (9, .long (lN (sm (pvw ρ).2.2.1 i))), (11, .int (nI (mkN (pvw ρ).2.2.2.1 i))), (12, .int (nI 1)), (13, .int (nI i))] ⟨rfl, rfl, rfl, rfl, rfl, rfl, rfl, rfl, rfl, rfl, trivial⟩ ?_
    refine x_room (k := 8 + (2 + (23 + (6 + (100 + (140 * m + k0)))))) (n := 48 + (12 + (138 + (36 + (800 + (1040 * m + n0)))))) (by omega) (by omega) ?_
    refine kp_A hN hO hX hT hb h (fun C1 h => kp_B hN hO hX hT hb h (fun C2 h => kp_C hN hO hX hT hb h (fun C3 h => kp_D hN hO hX hT hb h (fun C4 h => kp_E hN hO hX hT hb h (fun C5 h => ?_)))))
    exact ih (i + 1) C5 (by omega) h kk

