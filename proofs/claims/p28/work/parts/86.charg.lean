/-! the law: what is kept, the chargers -/
theorem kc_A {G : GT} {C : AH} {Q : QT} {C0 : AH} {sa va : Nat → Nat} {x T n c d e k0 n0 : Nat} {S : Nat → Nat} {ρ : Rw} {L : List Rw} {K : Nat → Option Rw} (hN : GN G) (hO : GO G) (hX : GX G sa va) (hT : T ≤ 40000) (hc : c < ρ 2) (hd : d < ρ 2) (h : RF T C0 C x (S, n, ρ, L, K)) (kk : ∀ (a : Nat) (C' : AH), (a = 1 ∧ ahC ρ d c) ∨ (a = 0 ∧ ¬ ahC ρ d c) → RF T C0 C' x (S, n, ρ, L, K) → Ex G M_L_kept Q NX (k0) (n0) 655 [(0, .ref x), (1, .int (nI (ρ 1))), (2, .int (nI (ρ 2))), (3, .long (lN (sm (fun b => ρ (bi b 6)) (ρ 1)))), (5, .long (lN (sm (f8N ρ) (ρ 1)))), (7, .long (lN (sm (fun b => ρ (bi b 1)) (ρ 1)))), (9, .long (lN (sm (pvw ρ).2.2.1 (ρ 1)))), (11, .int (nI (mkN (pvw ρ).2.2.2.1 (ρ 1)))), (12, .int (nI 1)), (13, .int (nI (mkN (fun q => some (plc (ordL ρ) q)) (c + 1)))), (14, .int (nI c)), (15, .int (nI (plc (ordL ρ) c))), (16, .int (nI e)), (17, .int (nI d)), (18, .int (nI a))] [] C') : Ex G M_L_kept Q NX (8 + k0) (48 + n0) 605 [(0, .ref x), (1, .int (nI (ρ 1))), (2, .int (nI (ρ 2))), (3, .long (lN (sm (fun b => ρ (bi b 6)) (ρ 1)))), (5, .long (lN (sm (f8N ρ) (ρ 1)))), (7, .long (lN (sm (fun b => ρ (bi b 1)) (ρ 1)))), (9, .long (lN (sm (pvw ρ).2.2.1 (ρ 1)))), (11, .int (nI (mkN (pvw ρ).2.2.2.1 (ρ 1)))), (12, .int (nI 1)), (13, .int (nI (mkN (fun q => some (plc (ordL ρ) q)) (c + 1)))), (14, .int (nI c)), (15, .int (nI (plc (ordL ρ) c))), (16, .int (nI e)), (17, .int (nI d))] [] C := by
  have hk : Ok T ρ := h.1.1.1
  obtain ⟨hW, hB⟩ := id hk
  obtain ⟨w1, w2, w7, w8, w9, w10, w11, w11', w12, wB, wP⟩ := id hW
  have hPc := wP c hc
  have hPd := wP d hd
  by_cases c1 : ρ (69 + c) < ρ (69 + d)
  · skip
    refine x_aload_n dL_kept_605 rfl ?_
    refine x_iload dL_kept_606 rfl ?_
    refine x_iconst (v := nI 0) dL_kept_608 (by decide) ?_
    refine x_cX (c9 := 2) (s9 := 12) (As := [_, _, _]) hO dL_kept_609 o_L_charger s_L_charger l_L_113 ⟨by decide, by decide⟩ ⟨rfl, rfl⟩ ⟨by omega, by omega⟩ rfl rfl (Nat.le_of_ble_eq_true rfl) (q_chgN hN hO hX hT hd (by decide) (z := ρ (69 + d)) rfl h (fun C1 h => ?_))
    dsimp only [Option.toList, List.cons_append, List.nil_append]
    refine x_aload_n dL_kept_612 rfl ?_
    refine x_iload dL_kept_613 rfl ?_
    refine x_iconst (v := nI 0) dL_kept_615 (by decide) ?_
    refine x_cX (c9 := 2) (s9 := 12) (As := [_, _, _]) hO dL_kept_616 o_L_charger s_L_charger l_L_113 ⟨by decide, by decide⟩ ⟨rfl, rfl⟩ ⟨by omega, by omega⟩ rfl rfl (Nat.le_of_ble_eq_true rfl) (q_chgN hN hO hX hT hc (by decide) (z := ρ (69 + c)) rfl h (fun C1 h => ?_))
    dsimp only [Option.toList, List.cons_append, List.nil_append]
    refine x_lc_gtT (tgt := 648) dL_kept_619 dL_kept_620 (by decide) ((pk_lLT (by omega) (by omega)).mpr (by omega)) ?_
    refine x_iconst (v := nI 1) dL_kept_648 (by decide) ?_
    refine x_goto (tgt := 653) dL_kept_649 (by decide) ?_
    refine x_istore dL_kept_653 (by decide) ?_
    refine x_ls [(0, .ref x), (1, .int (nI (ρ 1))), (2, .int (nI (ρ 2))), (3, .long (lN (sm (fun b => ρ (bi b 6)) (ρ 1)))), (5, .long (lN (sm (f8N ρ) (ρ 1)))), (7, .long (lN (sm (fun b => ρ (bi b 1)) (ρ 1)))), (9, .long (lN (sm (pvw ρ).2.2.1 (ρ 1)))), (11, .int (nI (mkN (pvw ρ).2.2.2.1 (ρ 1)))), (12, .int (nI 1)), (13, .int (nI (mkN (fun q => some (plc (ordL ρ) q)) (c + 1)))), (14, .int (nI c)), (15, .int (nI (plc (ordL ρ) c))), (16, .int (nI e)), (17, .int (nI d)), (18, .int (nI 1))] ⟨rfl, rfl, rfl, rfl, rfl, rfl, rfl, rfl, rfl, rfl, rfl, rfl, rfl, rfl, rfl, trivial⟩ ?_
    refine x_room (k := k0) (n := n0) (by omega) (by omega) ?_
    exact kk 1 _ (Or.inl ⟨rfl, Or.inl c1⟩) h
  by_cases c2 : ρ (69 + d) = ρ (69 + c)
  · by_cases c3 : d < c
    · skip
      refine x_aload_n dL_kept_605 rfl ?_
      refine x_iload dL_kept_606 rfl ?_
      refine x_iconst (v := nI 0) dL_kept_608 (by decide) ?_
      refine x_cX (c9 := 2) (s9 := 12) (As := [_, _, _]) hO dL_kept_609 o_L_charger s_L_charger l_L_113 ⟨by decide, by decide⟩ ⟨rfl, rfl⟩ ⟨by omega, by omega⟩ rfl rfl (Nat.le_of_ble_eq_true rfl) (q_chgN hN hO hX hT hd (by decide) (z := ρ (69 + d)) rfl h (fun C1 h => ?_))
      dsimp only [Option.toList, List.cons_append, List.nil_append]
      refine x_aload_n dL_kept_612 rfl ?_
      refine x_iload dL_kept_613 rfl ?_
      refine x_iconst (v := nI 0) dL_kept_615 (by decide) ?_
      refine x_cX (c9 := 2) (s9 := 12) (As := [_, _, _]) hO dL_kept_616 o_L_charger s_L_charger l_L_113 ⟨by decide, by decide⟩ ⟨rfl, rfl⟩ ⟨by omega, by omega⟩ rfl rfl (Nat.le_of_ble_eq_true rfl) (q_chgN hN hO hX hT hc (by decide) (z := ρ (69 + c)) rfl h (fun C1 h => ?_))
      dsimp only [Option.toList, List.cons_append, List.nil_append]
      refine x_lc_gtN (tgt := 648) dL_kept_619 dL_kept_620 (by decide) (fun q => by have := (pk_lLT (by omega) (by omega)).mp q; omega) ?_
      refine x_aload_n dL_kept_623 rfl ?_
      refine x_iload dL_kept_624 rfl ?_
      refine x_iconst (v := nI 0) dL_kept_626 (by decide) ?_
      refine x_cX (c9 := 2) (s9 := 12) (As := [_, _, _]) hO dL_kept_627 o_L_charger s_L_charger l_L_113 ⟨by decide, by decide⟩ ⟨rfl, rfl⟩ ⟨by omega, by omega⟩ rfl rfl (Nat.le_of_ble_eq_true rfl) (q_chgN hN hO hX hT hd (by decide) (z := ρ (69 + d)) rfl h (fun C1 h => ?_))
      dsimp only [Option.toList, List.cons_append, List.nil_append]
      refine x_aload_n dL_kept_630 rfl ?_
      refine x_iload dL_kept_631 rfl ?_
      refine x_iconst (v := nI 0) dL_kept_633 (by decide) ?_
      refine x_cX (c9 := 2) (s9 := 12) (As := [_, _, _]) hO dL_kept_634 o_L_charger s_L_charger l_L_113 ⟨by decide, by decide⟩ ⟨rfl, rfl⟩ ⟨by omega, by omega⟩ rfl rfl (Nat.le_of_ble_eq_true rfl) (q_chgN hN hO hX hT hc (by decide) (z := ρ (69 + c)) rfl h (fun C1 h => ?_))
      dsimp only [Option.toList, List.cons_append, List.nil_append]
      refine x_lc_neN (tgt := 652) dL_kept_637 dL_kept_638 (by decide) (congrArg lN (by omega)) ?_
      refine x_iload dL_kept_641 rfl ?_
      refine x_iload dL_kept_643 rfl ?_
      refine x_icmp_geN (tgt := 652) dL_kept_645 (by decide) (nI_ge c3 (by omega)) ?_
      refine x_iconst (v := nI 1) dL_kept_648 (by decide) ?_
      refine x_goto (tgt := 653) dL_kept_649 (by decide) ?_
      refine x_istore dL_kept_653 (by decide) ?_
      refine x_ls [(0, .ref x), (1, .int (nI (ρ 1))), (2, .int (nI (ρ 2))), (3, .long (lN (sm (fun b => ρ (bi b 6)) (ρ 1)))), (5, .long (lN (sm (f8N ρ) (ρ 1)))), (7, .long (lN (sm (fun b => ρ (bi b 1)) (ρ 1)))), (9, .long (lN (sm (pvw ρ).2.2.1 (ρ 1)))), (11, .int (nI (mkN (pvw ρ).2.2.2.1 (ρ 1)))), (12, .int (nI 1)), (13, .int (nI (mkN (fun q => some (plc (ordL ρ) q)) (c + 1)))), (14, .int (nI c)), (15, .int (nI (plc (ordL ρ) c))), (16, .int (nI e)), (17, .int (nI d)), (18, .int (nI 1))] ⟨rfl, rfl, rfl, rfl, rfl, rfl, rfl, rfl, rfl, rfl, rfl, rfl, rfl, rfl, rfl, trivial⟩ ?_
      refine x_room (k := k0) (n := n0) (by omega) (by omega) ?_
      exact kk 1 _ (Or.inl ⟨rfl, Or.inr ⟨c2, c3⟩⟩) h
    · skip
      refine x_aload_n dL_kept_605 rfl ?_
      refine x_iload dL_kept_606 rfl ?_
      refine x_iconst (v := nI 0) dL_kept_608 (by decide) ?_
      refine x_cX (c9 := 2) (s9 := 12) (As := [_, _, _]) hO dL_kept_609 o_L_charger s_L_charger l_L_113 ⟨by decide, by decide⟩ ⟨rfl, rfl⟩ ⟨by omega, by omega⟩ rfl rfl (Nat.le_of_ble_eq_true rfl) (q_chgN hN hO hX hT hd (by decide) (z := ρ (69 + d)) rfl h (fun C1 h => ?_))
      dsimp only [Option.toList, List.cons_append, List.nil_append]
      refine x_aload_n dL_kept_612 rfl ?_
      refine x_iload dL_kept_613 rfl ?_
      refine x_iconst (v := nI 0) dL_kept_615 (by decide) ?_
      refine x_cX (c9 := 2) (s9 := 12) (As := [_, _, _]) hO dL_kept_616 o_L_charger s_L_charger l_L_113 ⟨by decide, by decide⟩ ⟨rfl, rfl⟩ ⟨by omega, by omega⟩ rfl rfl (Nat.le_of_ble_eq_true rfl) (q_chgN hN hO hX hT hc (by decide) (z := ρ (69 + c)) rfl h (fun C1 h => ?_))
      dsimp only [Option.toList, List.cons_append, List.nil_append]
      refine x_lc_gtN (tgt := 648) dL_kept_619 dL_kept_620 (by decide) (fun q => by have := (pk_lLT (by omega) (by omega)).mp q; omega) ?_
      refine x_aload_n dL_kept_623 rfl ?_
      refine x_iload dL_kept_624 rfl ?_
      refine x_iconst (v := nI 0) dL_kept_626 (by decide) ?_
      refine x_cX (c9 := 2) (s9 := 12) (As := [_, _, _]) hO dL_kept_627 o_L_charger s_L_charger l_L_113 ⟨by decide, by decide⟩ ⟨rfl, rfl⟩ ⟨by omega, by omega⟩ rfl rfl (Nat.le_of_ble_eq_true rfl) (q_chgN hN hO hX hT hd (by decide) (z := ρ (69 + d)) rfl h (fun C1 h => ?_))
      dsimp only [Option.toList, List.cons_append, List.nil_append]
      refine x_aload_n dL_kept_630 rfl ?_
      refine x_iload dL_kept_631 rfl ?_
      refine x_iconst (v := nI 0) dL_kept_633 (by decide) ?_
      refine x_cX (c9 := 2) (s9 := 12) (As := [_, _, _]) hO dL_kept_634 o_L_charger s_L_charger l_L_113 ⟨by decide, by decide⟩ ⟨rfl, rfl⟩ ⟨by omega, by omega⟩ rfl rfl (Nat.le_of_ble_eq_true rfl) (q_chgN hN hO hX hT hc (by decide) (z := ρ (69 + c)) rfl h (fun C1 h => ?_))
      dsimp only [Option.toList, List.cons_append, List.nil_append]
      refine x_lc_neN (tgt := 652) dL_kept_637 dL_kept_638 (by decide) (congrArg lN (by omega)) ?_
      refine x_iload dL_kept_641 rfl ?_
      refine x_iload dL_kept_643 rfl ?_
      refine x_icmp_geT (tgt := 652) dL_kept_645 (by decide) (nI_le (by omega) (by omega)) ?_
      refine x_iconst (v := nI 0) dL_kept_652 (by decide) ?_
      refine x_istore dL_kept_653 (by decide) ?_
      refine x_ls [(0, .ref x), (1, .int (nI (ρ 1))), (2, .int (nI (ρ 2))), (3, .long (lN (sm (fun b => ρ (bi b 6)) (ρ 1)))), (5, .long (lN (sm (f8N ρ) (ρ 1)))), (7, .long (lN (sm (fun b => ρ (bi b 1)) (ρ 1)))), (9, .long (lN (sm (pvw ρ).2.2.1 (ρ 1)))), (11, .int (nI (mkN (pvw ρ).2.2.2.1 (ρ 1)))), (12, .int (nI 1)), (13, .int (nI (mkN (fun q => some (plc (ordL ρ) q)) (c + 1)))), (14, .int (nI c)), (15, .int (nI (plc (ordL ρ) c))), (16, .int (nI e)), (17, .int (nI d)), (18, .int (nI 0))] ⟨rfl, rfl, rfl, rfl, rfl, rfl, rfl, rfl, rfl, rfl, rfl, rfl, rfl, rfl, rfl, trivial⟩ ?_
      refine x_room (k := k0) (n := n0) (by omega) (by omega) ?_
      exact kk 0 _ (Or.inr ⟨rfl, fun q => by unfold ahC at q; omega⟩) h
  · skip
    refine x_aload_n dL_kept_605 rfl ?_
    refine x_iload dL_kept_606 rfl ?_
    refine x_iconst (v := nI 0) dL_kept_608 (by decide) ?_
    refine x_cX (c9 := 2) (s9 := 12) (As := [_, _, _]) hO dL_kept_609 o_L_charger s_L_charger l_L_113 ⟨by decide, by decide⟩ ⟨rfl, rfl⟩ ⟨by omega, by omega⟩ rfl rfl (Nat.le_of_ble_eq_true rfl) (q_chgN hN hO hX hT hd (by decide) (z := ρ (69 + d)) rfl h (fun C1 h => ?_))
    dsimp only [Option.toList, List.cons_append, List.nil_append]
    refine x_aload_n dL_kept_612 rfl ?_
    refine x_iload dL_kept_613 rfl ?_
    refine x_iconst (v := nI 0) dL_kept_615 (by decide) ?_
    refine x_cX (c9 := 2) (s9 := 12) (As := [_, _, _]) hO dL_kept_616 o_L_charger s_L_charger l_L_113 ⟨by decide, by decide⟩ ⟨rfl, rfl⟩ ⟨by omega, by omega⟩ rfl rfl (Nat.le_of_ble_eq_true rfl) (q_chgN hN hO hX hT hc (by decide) (z := ρ (69 + c)) rfl h (fun C1 h => ?_))
    dsimp only [Option.toList, List.cons_append, List.nil_append]
    refine x_lc_gtN (tgt := 648) dL_kept_619 dL_kept_620 (by decide) (fun q => by have := (pk_lLT (by omega) (by omega)).mp q; omega) ?_
    refine x_aload_n dL_kept_623 rfl ?_
    refine x_iload dL_kept_624 rfl ?_
    refine x_iconst (v := nI 0) dL_kept_626 (by decide) ?_
    refine x_cX (c9 := 2) (s9 := 12) (As := [_, _, _]) hO dL_kept_627 o_L_charger s_L_charger l_L_113 ⟨by decide, by decide⟩ ⟨rfl, rfl⟩ ⟨by omega, by omega⟩ rfl rfl (Nat.le_of_ble_eq_true rfl) (q_chgN hN hO hX hT hd (by decide) (z := ρ (69 + d)) rfl h (fun C1 h => ?_))
    dsimp only [Option.toList, List.cons_append, List.nil_append]
    refine x_aload_n dL_kept_630 rfl ?_
    refine x_iload dL_kept_631 rfl ?_
    refine x_iconst (v := nI 0) dL_kept_633 (by decide) ?_
    refine x_cX (c9 := 2) (s9 := 12) (As := [_, _, _]) hO dL_kept_634 o_L_charger s_L_charger l_L_113 ⟨by decide, by decide⟩ ⟨rfl, rfl⟩ ⟨by omega, by omega⟩ rfl rfl (Nat.le_of_ble_eq_true rfl) (q_chgN hN hO hX hT hc (by decide) (z := ρ (69 + c)) rfl h (fun C1 h => ?_))
    dsimp only [Option.toList, List.cons_append, List.nil_append]
    refine x_lc_neT (tgt := 652) dL_kept_637 dL_kept_638 (by decide) (fun q => by have := (pk_lEQ (by omega) (by omega)).mp q; omega) ?_
    refine x_iconst (v := nI 0) dL_kept_652 (by decide) ?_
    refine x_istore dL_kept_653 (by decide) ?_
    refine x_ls [(0, .ref x), (1, .int (nI (ρ 1))), (2, .int (nI (ρ 2))), (3, .long (lN (sm (fun b => ρ (bi b 6)) (ρ 1)))), (5, .long (lN (sm (f8N ρ) (ρ 1)))), (7, .long (lN (sm (fun b => ρ (bi b 1)) (ρ 1)))), (9, .long (lN (sm (pvw ρ).2.2.1 (ρ 1)))), (11, .int (nI (mkN (pvw ρ).2.2.2.1 (ρ 1)))), (12, .int (nI 1)), (13, .int (nI (mkN (fun q => some (plc (ordL ρ) q)) (c + 1)))), (14, .int (nI c)), (15, .int (nI (plc (ordL ρ) c))), (16, .int (nI e)), (17, .int (nI d)), (18, .int (nI 0))] ⟨rfl, rfl, rfl, rfl, rfl, rfl, rfl, rfl, rfl, rfl, rfl, rfl, rfl, rfl, rfl, trivial⟩ ?_
    refine x_room (k := k0) (n := n0) (by omega) (by omega) ?_
    exact kk 0 _ (Or.inr ⟨rfl, fun q => by unfold ahC at q; omega⟩) h

theorem kc_B {G : GT} {C : AH} {Q : QT} {C0 : AH} {sa va : Nat → Nat} {x T n c d e a k0 n0 : Nat} {S : Nat → Nat} {ρ : Rw} {L : List Rw} {K : Nat → Option Rw} (hN : GN G) (hO : GO G) (hX : GX G sa va) (hT : T ≤ 40000) (hc : c < ρ 2) (hd : d < ρ 2) (he : (e = 1 ∧ (pvw ρ).2.2.2.2 c ≠ none) ∨ (e = 0 ∧ (pvw ρ).2.2.2.2 c = none)) (ha : (a = 1 ∧ ahC ρ d c) ∨ (a = 0 ∧ ¬ ahC ρ d c)) (h : RF T C0 C x (S, n, ρ, L, K)) (kk : ∀ C' : AH, RF T C0 C' x (S, n, ρ, L, K) → Ex G M_L_kept Q NX (k0) (n0) 594 [(0, .ref x), (1, .int (nI (ρ 1))), (2, .int (nI (ρ 2))), (3, .long (lN (sm (fun b => ρ (bi b 6)) (ρ 1)))), (5, .long (lN (sm (f8N ρ) (ρ 1)))), (7, .long (lN (sm (fun b => ρ (bi b 1)) (ρ 1)))), (9, .long (lN (sm (pvw ρ).2.2.1 (ρ 1)))), (11, .int (nI (mkN (pvw ρ).2.2.2.1 (ρ 1)))), (12, .int (nI 1)), (13, .int (nI (mkN (fun q => some (plc (ordL ρ) q)) (c + 1)))), (14, .int (nI c)), (15, .int (nI (plc (ordL ρ) c))), (16, .int (nI e)), (17, .int (nI (d + 1)))] [] C') : Ex G M_L_kept Q NX (4 + k0) (24 + n0) 655 [(0, .ref x), (1, .int (nI (ρ 1))), (2, .int (nI (ρ 2))), (3, .long (lN (sm (fun b => ρ (bi b 6)) (ρ 1)))), (5, .long (lN (sm (f8N ρ) (ρ 1)))), (7, .long (lN (sm (fun b => ρ (bi b 1)) (ρ 1)))), (9, .long (lN (sm (pvw ρ).2.2.1 (ρ 1)))), (11, .int (nI (mkN (pvw ρ).2.2.2.1 (ρ 1)))), (12, .int (nI 1)), (13, .int (nI (mkN (fun q => some (plc (ordL ρ) q)) (c + 1)))), (14, .int (nI c)), (15, .int (nI (plc (ordL ρ) c))), (16, .int (nI e)), (17, .int (nI d)), (18, .int (nI a))] [] C := by
  have hk : Ok T ρ := h.1.1.1
  obtain ⟨hW, hB⟩ := id hk
  obtain ⟨w1, w2, w7, w8, w9, w10, w11, w11', w12, wB, wP⟩ := id hW
  have hPc := wP c hc
  have hPd := wP d hd
  have bc := plc_b hW hc
  have bd := plc_b hW hd
  have key := plc_lt hW hc hd
  rcases ha with ⟨rfl, ha⟩ | ⟨rfl, ha⟩
  · have hlt9 := key.mpr ha
    rcases he with ⟨rfl, he⟩ | ⟨rfl, he⟩
    · have hne9 : ¬ eL ((pvw ρ).2.2.2.2 d) = -1 := fun q => fill_ah hW hc hd ha he ((eL_none fun b q => by have := ((pvw_pl hW).2 d b q).1; omega).mp q)
      refine x_iload dL_kept_655 rfl ?_
      refine x_aload_n dL_kept_657 rfl ?_
      refine x_iload dL_kept_658 rfl ?_
      refine x_iconst (v := nI 1) dL_kept_660 (by decide) ?_
      refine x_cX (c9 := 2) (s9 := 12) (As := [_, _, _]) hO dL_kept_661 o_L_charger s_L_charger l_L_113 ⟨by decide, by decide⟩ ⟨rfl, rfl⟩ ⟨by omega, by omega⟩ rfl rfl (Nat.le_of_ble_eq_true rfl) (q_chgN hN hO hX hT hd (by decide) (z := plc (ordL ρ) d) rfl h (fun C1 h => ?_))
      dsimp only [Option.toList, List.cons_append, List.nil_append]
      refine x_iload dL_kept_664 rfl ?_
      refine x_i2l dL_kept_666 ?_
      rw [nI_l (show plc (ordL ρ) c < 2 ^ 31 by omega)]
      refine x_lc_geN (tgt := 675) dL_kept_667 dL_kept_668 (by decide) (fun q => by have := (pk_lLE (by omega) (by omega)).mp q; omega) ?_
      refine x_iconst (v := nI 1) dL_kept_671 (by decide) ?_
      refine x_goto (tgt := 676) dL_kept_672 (by decide) ?_
      refine x_icmp_neN (tgt := 707) dL_kept_676 (by decide) rfl ?_
      refine x_iload dL_kept_679 rfl ?_
      refine x_if_eqN (tgt := 703) dL_kept_681 (by decide) (by decide) ?_
      refine x_iload dL_kept_684 rfl ?_
      refine x_if_eqN (tgt := 703) dL_kept_686 (by decide) (by decide) ?_
      refine x_aload_n dL_kept_689 rfl ?_
      refine x_iload dL_kept_690 rfl ?_
      refine x_iconst (v := nI 2) dL_kept_692 (by decide) ?_
      refine x_cX (c9 := 2) (s9 := 12) (As := [_, _, _]) hO dL_kept_693 o_L_charger s_L_charger l_L_113 ⟨by decide, by decide⟩ ⟨rfl, rfl⟩ ⟨by omega, by omega⟩ rfl rfl (Nat.le_of_ble_eq_true rfl) (q_chg2 hN hO hX hT hd rfl h (fun C1 h => ?_))
      dsimp only [Option.toList, List.cons_append, List.nil_append]
      refine x_ldc2 hO.1 dL_kept_696 k_L_178 ?_
      refine x_lc_eqN (tgt := 707) dL_kept_699 dL_kept_700 (by decide) hne9 ?_
      refine x_iconst (v := nI 1) dL_kept_703 (by decide) ?_
      refine x_goto (tgt := 708) dL_kept_704 (by decide) ?_
      refine x_istore dL_kept_708 (by decide) ?_
      refine x_iinc (v := nI 1) dL_kept_710 rfl (by decide) (by decide) ?_
      refine x_goto (tgt := 594) dL_kept_713 (by decide) ?_
      refine x_ls [(0, .ref x), (1, .int (nI (ρ 1))), (2, .int (nI (ρ 2))), (3, .long (lN (sm (fun b => ρ (bi b 6)) (ρ 1)))), (5, .long (lN (sm (f8N ρ) (ρ 1)))), (7, .long (lN (sm (fun b => ρ (bi b 1)) (ρ 1)))), (9, .long (lN (sm (pvw ρ).2.2.1 (ρ 1)))), (11, .int (nI (mkN (pvw ρ).2.2.2.1 (ρ 1)))), (12, .int (nI 1)), (13, .int (nI (mkN (fun q => some (plc (ordL ρ) q)) (c + 1)))), (14, .int (nI c)), (15, .int (nI (plc (ordL ρ) c))), (16, .int (nI 1)), (17, .int (nI (d + 1)))] ⟨rfl, rfl, rfl, rfl, rfl, rfl, rfl, rfl, rfl, rfl, rfl, rfl, rfl, (by rw [← nI_add]; rfl), trivial⟩ ?_
      refine x_room (k := k0) (n := n0) (by omega) (by omega) ?_
      exact kk _ h
    · skip
      refine x_iload dL_kept_655 rfl ?_
      refine x_aload_n dL_kept_657 rfl ?_
      refine x_iload dL_kept_658 rfl ?_
      refine x_iconst (v := nI 1) dL_kept_660 (by decide) ?_
      refine x_cX (c9 := 2) (s9 := 12) (As := [_, _, _]) hO dL_kept_661 o_L_charger s_L_charger l_L_113 ⟨by decide, by decide⟩ ⟨rfl, rfl⟩ ⟨by omega, by omega⟩ rfl rfl (Nat.le_of_ble_eq_true rfl) (q_chgN hN hO hX hT hd (by decide) (z := plc (ordL ρ) d) rfl h (fun C1 h => ?_))
      dsimp only [Option.toList, List.cons_append, List.nil_append]
      refine x_iload dL_kept_664 rfl ?_
      refine x_i2l dL_kept_666 ?_
      rw [nI_l (show plc (ordL ρ) c < 2 ^ 31 by omega)]
      refine x_lc_geN (tgt := 675) dL_kept_667 dL_kept_668 (by decide) (fun q => by have := (pk_lLE (by omega) (by omega)).mp q; omega) ?_
      refine x_iconst (v := nI 1) dL_kept_671 (by decide) ?_
      refine x_goto (tgt := 676) dL_kept_672 (by decide) ?_
      refine x_icmp_neN (tgt := 707) dL_kept_676 (by decide) rfl ?_
      refine x_iload dL_kept_679 rfl ?_
      refine x_if_eqN (tgt := 703) dL_kept_681 (by decide) (by decide) ?_
      refine x_iload dL_kept_684 rfl ?_
      refine x_if_eqT (tgt := 703) dL_kept_686 (by decide) rfl ?_
      refine x_iconst (v := nI 1) dL_kept_703 (by decide) ?_
      refine x_goto (tgt := 708) dL_kept_704 (by decide) ?_
      refine x_istore dL_kept_708 (by decide) ?_
      refine x_iinc (v := nI 1) dL_kept_710 rfl (by decide) (by decide) ?_
      refine x_goto (tgt := 594) dL_kept_713 (by decide) ?_
      refine x_ls [(0, .ref x), (1, .int (nI (ρ 1))), (2, .int (nI (ρ 2))), (3, .long (lN (sm (fun b => ρ (bi b 6)) (ρ 1)))), (5, .long (lN (sm (f8N ρ) (ρ 1)))), (7, .long (lN (sm (fun b => ρ (bi b 1)) (ρ 1)))), (9, .long (lN (sm (pvw ρ).2.2.1 (ρ 1)))), (11, .int (nI (mkN (pvw ρ).2.2.2.1 (ρ 1)))), (12, .int (nI 1)), (13, .int (nI (mkN (fun q => some (plc (ordL ρ) q)) (c + 1)))), (14, .int (nI c)), (15, .int (nI (plc (ordL ρ) c))), (16, .int (nI 0)), (17, .int (nI (d + 1)))] ⟨rfl, rfl, rfl, rfl, rfl, rfl, rfl, rfl, rfl, rfl, rfl, rfl, rfl, (by rw [← nI_add]; rfl), trivial⟩ ?_
      refine x_room (k := k0) (n := n0) (by omega) (by omega) ?_
      exact kk _ h
  · have nlt : ¬ plc (ordL ρ) d < plc (ordL ρ) c := fun q => ha (key.mp q)
    refine x_iload dL_kept_655 rfl ?_
    refine x_aload_n dL_kept_657 rfl ?_
    refine x_iload dL_kept_658 rfl ?_
    refine x_iconst (v := nI 1) dL_kept_660 (by decide) ?_
    refine x_cX (c9 := 2) (s9 := 12) (As := [_, _, _]) hO dL_kept_661 o_L_charger s_L_charger l_L_113 ⟨by decide, by decide⟩ ⟨rfl, rfl⟩ ⟨by omega, by omega⟩ rfl rfl (Nat.le_of_ble_eq_true rfl) (q_chgN hN hO hX hT hd (by decide) (z := plc (ordL ρ) d) rfl h (fun C1 h => ?_))
    dsimp only [Option.toList, List.cons_append, List.nil_append]
    refine x_iload dL_kept_664 rfl ?_
    refine x_i2l dL_kept_666 ?_
    rw [nI_l (show plc (ordL ρ) c < 2 ^ 31 by omega)]
    refine x_lc_geT (tgt := 675) dL_kept_667 dL_kept_668 (by decide) ((pk_lLE (by omega) (by omega)).mpr (by omega)) ?_
    refine x_iconst (v := nI 0) dL_kept_675 (by decide) ?_
    refine x_icmp_neN (tgt := 707) dL_kept_676 (by decide) rfl ?_
    refine x_iload dL_kept_679 rfl ?_
    refine x_if_eqT (tgt := 703) dL_kept_681 (by decide) rfl ?_
    refine x_iconst (v := nI 1) dL_kept_703 (by decide) ?_
    refine x_goto (tgt := 708) dL_kept_704 (by decide) ?_
    refine x_istore dL_kept_708 (by decide) ?_
    refine x_iinc (v := nI 1) dL_kept_710 rfl (by decide) (by decide) ?_
    refine x_goto (tgt := 594) dL_kept_713 (by decide) ?_
    refine x_ls [(0, .ref x), (1, .int (nI (ρ 1))), (2, .int (nI (ρ 2))), (3, .long (lN (sm (fun b => ρ (bi b 6)) (ρ 1)))), (5, .long (lN (sm (f8N ρ) (ρ 1)))), (7, .long (lN (sm (fun b => ρ (bi b 1)) (ρ 1)))), (9, .long (lN (sm (pvw ρ).2.2.1 (ρ 1)))), (11, .int (nI (mkN (pvw ρ).2.2.2.1 (ρ 1)))), (12, .int (nI 1)), (13, .int (nI (mkN (fun q => some (plc (ordL ρ) q)) (c + 1)))), (14, .int (nI c)), (15, .int (nI (plc (ordL ρ) c))), (16, .int (nI e)), (17, .int (nI (d + 1)))] ⟨rfl, rfl, rfl, rfl, rfl, rfl, rfl, rfl, rfl, rfl, rfl, rfl, rfl, (by rw [← nI_add]; rfl), trivial⟩ ?_
    refine x_room (k := k0) (n := n0) (by omega) (by omega) ?_
    exact kk _ h

theorem kc_1 {G : GT} {Q : QT} {C0 : AH} {sa va : Nat → Nat} {x T n c e k0 n0 : Nat} {S : Nat → Nat} {ρ : Rw} {L : List Rw} {K : Nat → Option Rw} (hN : GN G) (hO : GO G) (hX : GX G sa va) (hT : T ≤ 40000) (w2 : ρ 2 ≤ 5) (hc : c < ρ 2) (he : (e = 1 ∧ (pvw ρ).2.2.2.2 c ≠ none) ∨ (e = 0 ∧ (pvw ρ).2.2.2.2 c = none)) : ∀ (m d : Nat) (C : AH), m + d = ρ 2 → RF T C0 C x (S, n, ρ, L, K) → (∀ C' : AH, RF T C0 C' x (S, n, ρ, L, K) → Ex G M_L_kept Q NX (k0) (n0) 716 [(0, .ref x), (1, .int (nI (ρ 1))), (2, .int (nI (ρ 2))), (3, .long (lN (sm (fun b => ρ (bi b 6)) (ρ 1)))), (5, .long (lN (sm (f8N ρ) (ρ 1)))), (7, .long (lN (sm (fun b => ρ (bi b 1)) (ρ 1)))), (9, .long (lN (sm (pvw ρ).2.2.1 (ρ 1)))), (11, .int (nI (mkN (pvw ρ).2.2.2.1 (ρ 1)))), (12, .int (nI 1)), (13, .int (nI (mkN (fun q => some (plc (ordL ρ) q)) (c + 1)))), (14, .int (nI c)), (15, .int (nI (plc (ordL ρ) c))), (16, .int (nI e))] [] C') → Ex G M_L_kept Q NX (12 * m + k0) (72 * m + n0) 594 [(0, .ref x), (1, .int (nI (ρ 1))), (2, .int (nI (ρ 2))), (3, .long (lN (sm (fun b => ρ (bi b 6)) (ρ 1)))), (5, .long (lN (sm (f8N ρ) (ρ 1)))), (7, .long (lN (sm (fun b => ρ (bi b 1)) (ρ 1)))), (9, .long (lN (sm (pvw ρ).2.2.1 (ρ 1)))), (11, .int (nI (mkN (pvw ρ).2.2.2.1 (ρ 1)))), (12, .int (nI 1)), (13, .int (nI (mkN (fun q => some (plc (ordL ρ) q)) (c + 1)))), (14, .int (nI c)), (15, .int (nI (plc (ordL ρ) c))), (16, .int (nI e)), (17, .int (nI d))] [] C := by
  intro m
  induction m with
  | zero =>
    intro d C hi h kk
    refine x_iload dL_kept_594 rfl ?_
    refine x_iload_n dL_kept_596 rfl ?_
    refine x_icmp_geT (tgt := 716) dL_kept_597 (by decide) (nI_le (by omega) (by omega)) ?_
    refine x_ls [(0, .ref x), (1, .int (nI (ρ 1))), (2, .int (nI (ρ 2))), (3, .long (lN (sm (fun b => ρ (bi b 6)) (ρ 1)))), (5, .long (lN (sm (f8N ρ) (ρ 1)))), (7, .long (lN (sm (fun b => ρ (bi b 1)) (ρ 1)))), (9, .long (lN (sm (pvw ρ).2.2.1 (ρ 1)))), (11, .int (nI (mkN (pvw ρ).2.2.2.1 (ρ 1)))), (12, .int (nI 1)), (13, .int (nI (mkN (fun q => some (plc (ordL ρ) q)) (c + 1)))), (14, .int (nI c)), (15, .int (nI (plc (ordL ρ) c))), (16, .int (nI e))] ⟨rfl, rfl, rfl, rfl, rfl, rfl, rfl, rfl, rfl, rfl, rfl, rfl, rfl, trivial⟩ ?_
    refine x_room (k := k0) (n := n0) (by omega) (by omega) ?_
    exact kk C h
  | succ m ih =>
    intro d C hi h kk
    have hd : d < ρ 2 := by omega
    refine x_iload dL_kept_594 rfl ?_
    refine x_iload_n dL_kept_596 rfl ?_
    refine x_icmp_geN (tgt := 716) dL_kept_597 (by decide) (nI_ge (by omega) (by omega)) ?_
    refine x_iload dL_kept_600 rfl ?_
    refine x_if_eqN (tgt := 716) dL_kept_602 (by decide) (by decide) ?_
    refine x_ls [(0, .ref x), (1, .int (nI (ρ 1))), (2, .int (nI (ρ 2))), (3, .long (lN (sm (fun b => ρ (bi b 6)) (ρ 1)))), (5, .long (lN (sm (f8N ρ) (ρ 1)))), (7, .long (lN (sm (fun b => ρ (bi b 1)) (ρ 1)))), (9, .long (lN (sm (pvw ρ).2.2.1 (ρ 1)))), (11, .int (nI (mkN (pvw ρ).2.2.2.1 (ρ 1)))), (12, .int (nI 1)), (13, .int (nI (mkN (fun q => some (plc (ordL ρ) q)) (c + 1)))), (14, .int (nI c)), (15, .int (nI (plc (ordL ρ) c))), (16, .int (nI e)), (17, .int (nI d))] ⟨rfl, rfl, rfl, rfl, rfl, rfl, rfl, rfl, rfl, rfl, rfl, rfl, rfl, rfl, trivial⟩ ?_
    refine x_room (k := 8 + (4 + (12 * m + k0))) (n := 48 + (24 + (72 * m + n0))) (by omega) (by omega) ?_
    refine kc_A hN hO hX hT hc hd h (fun a C1 ha h => kc_B hN hO hX hT hc hd he ha h (fun C2 h => ?_))
    exact ih (d + 1) C2 (by omega) h kk

theorem kc_C {G : GT} {C : AH} {Q : QT} {C0 : AH} {sa va : Nat → Nat} {x T n c k0 n0 : Nat} {S : Nat → Nat} {ρ : Rw} {L : List Rw} {K : Nat → Option Rw} (hN : GN G) (hO : GO G) (hX : GX G sa va) (hT : T ≤ 40000) (hc : c < ρ 2) (h : RF T C0 C x (S, n, ρ, L, K)) (kk : ∀ (e : Nat) (C' : AH), (e = 1 ∧ (pvw ρ).2.2.2.2 c ≠ none) ∨ (e = 0 ∧ (pvw ρ).2.2.2.2 c = none) → RF T C0 C' x (S, n, ρ, L, K) → Ex G M_L_kept Q NX (k0) (n0) 594 [(0, .ref x), (1, .int (nI (ρ 1))), (2, .int (nI (ρ 2))), (3, .long (lN (sm (fun b => ρ (bi b 6)) (ρ 1)))), (5, .long (lN (sm (f8N ρ) (ρ 1)))), (7, .long (lN (sm (fun b => ρ (bi b 1)) (ρ 1)))), (9, .long (lN (sm (pvw ρ).2.2.1 (ρ 1)))), (11, .int (nI (mkN (pvw ρ).2.2.2.1 (ρ 1)))), (12, .int (nI 1)), (13, .int (nI (mkN (fun q => some (plc (ordL ρ) q)) (c + 1)))), (14, .int (nI c)), (15, .int (nI (plc (ordL ρ) c))), (16, .int (nI e)), (17, .int (nI 0))] [] C') : Ex G M_L_kept Q NX (4 + k0) (24 + n0) 499 [(0, .ref x), (1, .int (nI (ρ 1))), (2, .int (nI (ρ 2))), (3, .long (lN (sm (fun b => ρ (bi b 6)) (ρ 1)))), (5, .long (lN (sm (f8N ρ) (ρ 1)))), (7, .long (lN (sm (fun b => ρ (bi b 1)) (ρ 1)))), (9, .long (lN (sm (pvw ρ).2.2.1 (ρ 1)))), (11, .int (nI (mkN (pvw ρ).2.2.2.1 (ρ 1)))), (12, .int (nI 1)), (13, .int (nI (mkN (fun q => some (plc (ordL ρ) q)) c))), (14, .int (nI c))] [] C := by
  have hk : Ok T ρ := h.1.1.1
  obtain ⟨hW, hB⟩ := id hk
  obtain ⟨w1, w2, w7, w8, w9, w10, w11, w11', w12, wB, wP⟩ := id hW
  have hPc := wP c hc
  have bc := plc_b hW hc
  obtain ⟨hm5, hbit⟩ := mkN_ok (f := (pvw ρ).2.2.2.1) (i := ρ 1) fun b c _ q => by have := ((pvw_pl hW).1 b c q).1; omega
  obtain ⟨hp5, hpit⟩ := mkN_ok (f := fun q => some (plc (ordL ρ) q)) (i := c) fun b c9 hb q => by
    have := Option.some.inj q
    have := plc_b hW (c := b) (by omega)
    omega
  have hno : ¬ (mkN (fun q => some (plc (ordL ρ) q)) c).testBit (plc (ordL ρ) c) = true := fun q => by
    obtain ⟨b, hb9, hf⟩ := (hpit _).mp q
    have := plc_inj hW hc (by omega) (Option.some.inj hf)
    omega
  cases ho : (pvw ρ).2.2.2.2 c with
  | none =>
    have hbt : ¬ (mkN (pvw ρ).2.2.2.1 (ρ 1)).testBit c = true := fun q => by
      obtain ⟨b, hb9, hf⟩ := (hbit c).mp q
      have := ((pvw_pl hW).1 b c hf).2
      rw [ho] at this
      cases this
    refine x_aload_n dL_kept_499 rfl ?_
    refine x_iload dL_kept_500 rfl ?_
    refine x_iconst (v := nI 1) dL_kept_502 (by decide) ?_
    refine x_cX (c9 := 2) (s9 := 12) (As := [_, _, _]) hO dL_kept_503 o_L_charger s_L_charger l_L_113 ⟨by decide, by decide⟩ ⟨rfl, rfl⟩ ⟨by omega, by omega⟩ rfl rfl (Nat.le_of_ble_eq_true rfl) (q_chgN hN hO hX hT hc (by decide) (z := plc (ordL ρ) c) rfl h (fun C1 h => ?_))
    dsimp only [Option.toList, List.cons_append, List.nil_append]
    refine x_l2i dL_kept_506 ?_
    rw [lN_i]
    refine x_istore dL_kept_507 (by decide) ?_
    refine x_aload_n dL_kept_509 rfl ?_
    refine x_iload dL_kept_510 rfl ?_
    refine x_iconst (v := nI 2) dL_kept_512 (by decide) ?_
    refine x_cX (c9 := 2) (s9 := 12) (As := [_, _, _]) hO dL_kept_513 o_L_charger s_L_charger l_L_113 ⟨by decide, by decide⟩ ⟨rfl, rfl⟩ ⟨by omega, by omega⟩ rfl rfl (Nat.le_of_ble_eq_true rfl) (q_chg2 hN hO hX hT hc rfl h (fun C1 h => ?_))
    dsimp only [Option.toList, List.cons_append, List.nil_append]
    rw [ho]
    refine x_ldc2 hO.1 dL_kept_516 k_L_178 ?_
    refine x_lc_eqT (tgt := 527) dL_kept_519 dL_kept_520 (by decide) rfl ?_
    refine x_iconst (v := nI 0) dL_kept_527 (by decide) ?_
    refine x_istore dL_kept_528 (by decide) ?_
    refine x_iload dL_kept_530 rfl ?_
    refine x_i2l dL_kept_532 ?_
    rw [nI_l (show plc (ordL ρ) c < 2 ^ 31 by omega)]
    refine x_lconst (v := 0) dL_kept_533 (by decide) ?_
    refine x_iload_n dL_kept_534 rfl ?_
    refine x_iconst (v := nI 1) dL_kept_535 (by decide) ?_
    refine x_isub dL_kept_536 ?_
    rw [pk_sub (show 1 ≤ ρ 2 by omega)]
    refine x_i2l dL_kept_537 ?_
    rw [nI_l (show ρ 2 - 1 < 2 ^ 31 by omega)]
    refine x_cS (c9 := 0) (s9 := 0) (As := [_, _, _]) hO dL_kept_538 o_L_in s_L_in l_L_164 ⟨by decide, by decide⟩ ⟨rfl, rfl⟩ ⟨by omega, by omega⟩ rfl rfl (Nat.le_of_ble_eq_true rfl) (m_in (fun r hr => ?_))
    dsimp only [Option.toList, List.cons_append, List.nil_append]
    refine x_if_eqN (tgt := 579) dL_kept_541 (by decide) (by rw [hr]; exact in_ok (a := 0) (v := plc (ordL ρ) c) (b := ρ 2 - 1) (by omega) (by omega) (by omega)) ?_
    refine x_iload dL_kept_544 rfl ?_
    refine x_iload dL_kept_546 rfl ?_
    refine x_ishr dL_kept_548 ?_
    refine x_iconst (v := nI 1) dL_kept_549 (by decide) ?_
    refine x_iand dL_kept_550 ?_
    rw [bit_q hp5 (by omega)]
    refine x_if_neN (tgt := 579) dL_kept_551 (by decide) (if_neg hno) ?_
    refine x_iload dL_kept_554 rfl ?_
    refine x_iload dL_kept_556 rfl ?_
    refine x_iload dL_kept_558 rfl ?_
    refine x_ishr dL_kept_560 ?_
    refine x_iconst (v := nI 1) dL_kept_561 (by decide) ?_
    refine x_iand dL_kept_562 ?_
    rw [bit_q hm5 (by omega), if_neg hbt]
    refine x_iconst (v := nI 1) dL_kept_563 (by decide) ?_
    refine x_icmp_neT (tgt := 571) dL_kept_564 (by decide) (by decide) ?_
    refine x_iconst (v := nI 0) dL_kept_571 (by decide) ?_
    refine x_icmp_neN (tgt := 579) dL_kept_572 (by decide) rfl ?_
    refine x_iconst (v := nI 1) dL_kept_575 (by decide) ?_
    refine x_goto (tgt := 580) dL_kept_576 (by decide) ?_
    refine x_istore dL_kept_580 (by decide) ?_
    refine x_iload dL_kept_582 rfl ?_
    refine x_iconst (v := nI 1) dL_kept_584 (by decide) ?_
    refine x_iload dL_kept_585 rfl ?_
    refine x_ishl dL_kept_587 ?_
    refine x_ior dL_kept_588 ?_
    rw [bit_s hp5 (by omega)]
    refine x_istore dL_kept_589 (by decide) ?_
    refine x_iconst (v := nI 0) dL_kept_591 (by decide) ?_
    refine x_istore dL_kept_592 (by decide) ?_
    refine x_ls [(0, .ref x), (1, .int (nI (ρ 1))), (2, .int (nI (ρ 2))), (3, .long (lN (sm (fun b => ρ (bi b 6)) (ρ 1)))), (5, .long (lN (sm (f8N ρ) (ρ 1)))), (7, .long (lN (sm (fun b => ρ (bi b 1)) (ρ 1)))), (9, .long (lN (sm (pvw ρ).2.2.1 (ρ 1)))), (11, .int (nI (mkN (pvw ρ).2.2.2.1 (ρ 1)))), (12, .int (nI 1)), (13, .int (nI (mkN (fun q => some (plc (ordL ρ) q)) (c + 1)))), (14, .int (nI c)), (15, .int (nI (plc (ordL ρ) c))), (16, .int (nI 0)), (17, .int (nI 0))] ⟨rfl, rfl, rfl, rfl, rfl, rfl, rfl, rfl, rfl, (by rw [mkN_some (f := fun q => some (plc (ordL ρ) q)) (i := c) rfl]; rfl), rfl, rfl, rfl, rfl, trivial⟩ ?_
    refine x_room (k := k0) (n := n0) (by omega) (by omega) ?_
    exact kk 0 _ (Or.inr ⟨rfl, ho⟩) h
  | some b =>
    obtain ⟨hb9, -, hf⟩ := (pvw_pl hW).2 c b ho
    have hbt : (mkN (pvw ρ).2.2.2.1 (ρ 1)).testBit c = true := (hbit c).mpr ⟨b, hb9, hf⟩
    have hne9 : ¬ eL (some b) = -1 := fun q => by
      have := (eL_none (o := some b) fun z q => by have := Option.some.inj q; omega).mp q
      cases this
    refine x_aload_n dL_kept_499 rfl ?_
    refine x_iload dL_kept_500 rfl ?_
    refine x_iconst (v := nI 1) dL_kept_502 (by decide) ?_
    refine x_cX (c9 := 2) (s9 := 12) (As := [_, _, _]) hO dL_kept_503 o_L_charger s_L_charger l_L_113 ⟨by decide, by decide⟩ ⟨rfl, rfl⟩ ⟨by omega, by omega⟩ rfl rfl (Nat.le_of_ble_eq_true rfl) (q_chgN hN hO hX hT hc (by decide) (z := plc (ordL ρ) c) rfl h (fun C1 h => ?_))
    dsimp only [Option.toList, List.cons_append, List.nil_append]
    refine x_l2i dL_kept_506 ?_
    rw [lN_i]
    refine x_istore dL_kept_507 (by decide) ?_
    refine x_aload_n dL_kept_509 rfl ?_
    refine x_iload dL_kept_510 rfl ?_
    refine x_iconst (v := nI 2) dL_kept_512 (by decide) ?_
    refine x_cX (c9 := 2) (s9 := 12) (As := [_, _, _]) hO dL_kept_513 o_L_charger s_L_charger l_L_113 ⟨by decide, by decide⟩ ⟨rfl, rfl⟩ ⟨by omega, by omega⟩ rfl rfl (Nat.le_of_ble_eq_true rfl) (q_chg2 hN hO hX hT hc rfl h (fun C1 h => ?_))
    dsimp only [Option.toList, List.cons_append, List.nil_append]
    rw [ho]
    refine x_ldc2 hO.1 dL_kept_516 k_L_178 ?_
    refine x_lc_eqN (tgt := 527) dL_kept_519 dL_kept_520 (by decide) hne9 ?_
    refine x_iconst (v := nI 1) dL_kept_523 (by decide) ?_
    refine x_goto (tgt := 528) dL_kept_524 (by decide) ?_
    refine x_istore dL_kept_528 (by decide) ?_
    refine x_iload dL_kept_530 rfl ?_
    refine x_i2l dL_kept_532 ?_
    rw [nI_l (show plc (ordL ρ) c < 2 ^ 31 by omega)]
    refine x_lconst (v := 0) dL_kept_533 (by decide) ?_
    refine x_iload_n dL_kept_534 rfl ?_
    refine x_iconst (v := nI 1) dL_kept_535 (by decide) ?_
    refine x_isub dL_kept_536 ?_
    rw [pk_sub (show 1 ≤ ρ 2 by omega)]
    refine x_i2l dL_kept_537 ?_
    rw [nI_l (show ρ 2 - 1 < 2 ^ 31 by omega)]
    refine x_cS (c9 := 0) (s9 := 0) (As := [_, _, _]) hO dL_kept_538 o_L_in s_L_in l_L_164 ⟨by decide, by decide⟩ ⟨rfl, rfl⟩ ⟨by omega, by omega⟩ rfl rfl (Nat.le_of_ble_eq_true rfl) (m_in (fun r hr => ?_))
    dsimp only [Option.toList, List.cons_append, List.nil_append]
    refine x_if_eqN (tgt := 579) dL_kept_541 (by decide) (by rw [hr]; exact in_ok (a := 0) (v := plc (ordL ρ) c) (b := ρ 2 - 1) (by omega) (by omega) (by omega)) ?_
    refine x_iload dL_kept_544 rfl ?_
    refine x_iload dL_kept_546 rfl ?_
    refine x_ishr dL_kept_548 ?_
    refine x_iconst (v := nI 1) dL_kept_549 (by decide) ?_
    refine x_iand dL_kept_550 ?_
    rw [bit_q hp5 (by omega)]
    refine x_if_neN (tgt := 579) dL_kept_551 (by decide) (if_neg hno) ?_
    refine x_iload dL_kept_554 rfl ?_
    refine x_iload dL_kept_556 rfl ?_
    refine x_iload dL_kept_558 rfl ?_
    refine x_ishr dL_kept_560 ?_
    refine x_iconst (v := nI 1) dL_kept_561 (by decide) ?_
    refine x_iand dL_kept_562 ?_
    rw [bit_q hm5 (by omega), if_pos hbt]
    refine x_iconst (v := nI 1) dL_kept_563 (by decide) ?_
    refine x_icmp_neN (tgt := 571) dL_kept_564 (by decide) rfl ?_
    refine x_iconst (v := nI 1) dL_kept_567 (by decide) ?_
    refine x_goto (tgt := 572) dL_kept_568 (by decide) ?_
    refine x_icmp_neN (tgt := 579) dL_kept_572 (by decide) rfl ?_
    refine x_iconst (v := nI 1) dL_kept_575 (by decide) ?_
    refine x_goto (tgt := 580) dL_kept_576 (by decide) ?_
    refine x_istore dL_kept_580 (by decide) ?_
    refine x_iload dL_kept_582 rfl ?_
    refine x_iconst (v := nI 1) dL_kept_584 (by decide) ?_
    refine x_iload dL_kept_585 rfl ?_
    refine x_ishl dL_kept_587 ?_
    refine x_ior dL_kept_588 ?_
    rw [bit_s hp5 (by omega)]
    refine x_istore dL_kept_589 (by decide) ?_
    refine x_iconst (v := nI 0) dL_kept_591 (by decide) ?_
    refine x_istore dL_kept_592 (by decide) ?_
    refine x_ls [(0, .ref x), (1, .int (nI (ρ 1))), (2, .int (nI (ρ 2))), (3, .long (lN (sm (fun b => ρ (bi b 6)) (ρ 1)))), (5, .long (lN (sm (f8N ρ) (ρ 1)))), (7, .long (lN (sm (fun b => ρ (bi b 1)) (ρ 1)))), (9, .long (lN (sm (pvw ρ).2.2.1 (ρ 1)))), (11, .int (nI (mkN (pvw ρ).2.2.2.1 (ρ 1)))), (12, .int (nI 1)), (13, .int (nI (mkN (fun q => some (plc (ordL ρ) q)) (c + 1)))), (14, .int (nI c)), (15, .int (nI (plc (ordL ρ) c))), (16, .int (nI 1)), (17, .int (nI 0))] ⟨rfl, rfl, rfl, rfl, rfl, rfl, rfl, rfl, rfl, (by rw [mkN_some (f := fun q => some (plc (ordL ρ) q)) (i := c) rfl]; rfl), rfl, rfl, rfl, rfl, trivial⟩ ?_
    refine x_room (k := k0) (n := n0) (by omega) (by omega) ?_
    exact kk 1 _ (Or.inl ⟨rfl, by rw [ho]; exact fun q => by cases q⟩) h

theorem kc_2 {G : GT} {Q : QT} {C0 : AH} {sa va : Nat → Nat} {x T n k0 n0 : Nat} {S : Nat → Nat} {ρ : Rw} {L : List Rw} {K : Nat → Option Rw} (hN : GN G) (hO : GO G) (hX : GX G sa va) (hT : T ≤ 40000) (w2 : ρ 2 ≤ 5) : ∀ (m c : Nat) (C : AH), m + c = ρ 2 → RF T C0 C x (S, n, ρ, L, K) → (∀ C' : AH, RF T C0 C' x (S, n, ρ, L, K) → Ex G M_L_kept Q NX (k0) (n0) 722 [(0, .ref x), (1, .int (nI (ρ 1))), (2, .int (nI (ρ 2))), (3, .long (lN (sm (fun b => ρ (bi b 6)) (ρ 1)))), (5, .long (lN (sm (f8N ρ) (ρ 1)))), (7, .long (lN (sm (fun b => ρ (bi b 1)) (ρ 1)))), (9, .long (lN (sm (pvw ρ).2.2.1 (ρ 1)))), (11, .int (nI (mkN (pvw ρ).2.2.2.1 (ρ 1)))), (12, .int (nI 1))] [] C') → Ex G M_L_kept Q NX (64 * m + k0) (384 * m + n0) 488 [(0, .ref x), (1, .int (nI (ρ 1))), (2, .int (nI (ρ 2))), (3, .long (lN (sm (fun b => ρ (bi b 6)) (ρ 1)))), (5, .long (lN (sm (f8N ρ) (ρ 1)))), (7, .long (lN (sm (fun b => ρ (bi b 1)) (ρ 1)))), (9, .long (lN (sm (pvw ρ).2.2.1 (ρ 1)))), (11, .int (nI (mkN (pvw ρ).2.2.2.1 (ρ 1)))), (12, .int (nI 1)), (13, .int (nI (mkN (fun q => some (plc (ordL ρ) q)) c))), (14, .int (nI c))] [] C := by
  intro m
  induction m with
  | zero =>
    intro c C hi h kk
    refine x_iload dL_kept_488 rfl ?_
    refine x_iload_n dL_kept_490 rfl ?_
    refine x_icmp_geT (tgt := 722) dL_kept_491 (by decide) (nI_le (by omega) (by omega)) ?_
    refine x_ls [(0, .ref x), (1, .int (nI (ρ 1))), (2, .int (nI (ρ 2))), (3, .long (lN (sm (fun b => ρ (bi b 6)) (ρ 1)))), (5, .long (lN (sm (f8N ρ) (ρ 1)))), (7, .long (lN (sm (fun b => ρ (bi b 1)) (ρ 1)))), (9, .long (lN (sm (pvw ρ).2.2.1 (ρ 1)))), (11, .int (nI (mkN (pvw ρ).2.2.2.1 (ρ 1)))), (12, .int (nI 1))] ⟨rfl, rfl, rfl, rfl, rfl, rfl, rfl, rfl, rfl, trivial⟩ ?_
    refine x_room (k := k0) (n := n0) (by omega) (by omega) ?_
    exact kk C h
  | succ m ih =>
    intro c C hi h kk
    have hc : c < ρ 2 := by omega
    refine x_iload dL_kept_488 rfl ?_
    refine x_iload_n dL_kept_490 rfl ?_
    refine x_icmp_geN (tgt := 722) dL_kept_491 (by decide) (nI_ge (by omega) (by omega)) ?_
    refine x_iload dL_kept_494 rfl ?_
    refine x_if_eqN (tgt := 722) dL_kept_496 (by decide) (by decide) ?_
    refine x_ls [(0, .ref x), (1, .int (nI (ρ 1))), (2, .int (nI (ρ 2))), (3, .long (lN (sm (fun b => ρ (bi b 6)) (ρ 1)))), (5, .long (lN (sm (f8N ρ) (ρ 1)))), (7, .long (lN (sm (fun b => ρ (bi b 1)) (ρ 1)))), (9, .long (lN (sm (pvw ρ).2.2.1 (ρ 1)))), (11, .int (nI (mkN (pvw ρ).2.2.2.1 (ρ 1)))), (12, .int (nI 1)), (13, .int (nI (mkN (fun q => some (plc (ordL ρ) q)) c))), (14, .int (nI c))] ⟨rfl, rfl, rfl, rfl, rfl, rfl, rfl, rfl, rfl, rfl, rfl, trivial⟩ ?_
    refine x_room (k := 4 + (12 * ρ 2 + (64 * m + k0))) (n := 24 + (72 * ρ 2 + (384 * m + n0))) (by omega) (by omega) ?_
    refine kc_C hN hO hX hT hc h (fun e C1 he h => kc_1 hN hO hX hT w2 hc he (ρ 2) 0 C1 (by omega) h (fun C2 h => ?_))
    refine x_iinc (v := nI 1) dL_kept_716 rfl (by decide) (by decide) ?_
    refine x_goto (tgt := 488) dL_kept_719 (by decide) ?_
    refine x_ls [(0, .ref x), (1, .int (nI (ρ 1))), (2, .int (nI (ρ 2))), (3, .long (lN (sm (fun b => ρ (bi b 6)) (ρ 1)))), (5, .long (lN (sm (f8N ρ) (ρ 1)))), (7, .long (lN (sm (fun b => ρ (bi b 1)) (ρ 1)))), (9, .long (lN (sm (pvw ρ).2.2.1 (ρ 1)))), (11, .int (nI (mkN (pvw ρ).2.2.2.1 (ρ 1)))), (12, .int (nI 1)), (13, .int (nI (mkN (fun q => some (plc (ordL ρ) q)) (c + 1)))), (14, .int (nI (c + 1)))] ⟨rfl, rfl, rfl, rfl, rfl, rfl, rfl, rfl, rfl, rfl, (by rw [← nI_add]; rfl), trivial⟩ ?_
    exact ih (c + 1) _ (by omega) h kk

theorem m_kept {G : GT} {C : AH} {Q : QT} {C0 : AH} {sa va : Nat → Nat} {x T n : Nat} {S : Nat → Nat} {ρ : Rw} {L : List Rw} {K : Nat → Option Rw} (hN : GN G) (hO : GO G) (hX : GX G sa va) (hT : T ≤ 40000) (h : RF T C0 C x (S, n, ρ, L, K)) (hq : ∀ C' : AH, RF T C0 C' x (S, n, ρ, L, K) → Q (some (.int 1)) C') : Mt G M_L_kept [.ref x] C Q NX := by
  refine Mt_of (by decide) (Nat.le_of_ble_eq_true rfl) ?_
  have hk : Ok T ρ := h.1.1.1
  obtain ⟨hW, hB⟩ := id hk
  obtain ⟨w1, w2, w7, w8, w9, w10, w11, w11', w12, wB, wP⟩ := id hW
  have hlim := un_lim hW
  refine x_room (k := 2000) (n := 14000) (by decide) (by decide) ?_
  refine x_aload_n dL_kept_0 rfl ?_
  refine x_iconst (v := nI 0) dL_kept_1 (by decide) ?_
  refine x_cX (c9 := 1) (s9 := 6) (As := [_, _]) hO dL_kept_2 o_L_about s_L_about l_L_103 ⟨by decide, by decide⟩ ⟨rfl, rfl⟩ ⟨by omega, by omega⟩ rfl rfl (Nat.le_of_ble_eq_true rfl) (q_aboN hN hO hX hT (by decide) (z := ρ 1) rfl h (fun C1 h => ?_))
  dsimp only [Option.toList, List.cons_append, List.nil_append]
  refine x_l2i dL_kept_5 ?_
  rw [lN_i]
  refine x_istore_n dL_kept_6 (by decide) ?_
  refine x_aload_n dL_kept_7 rfl ?_
  refine x_iconst (v := nI 1) dL_kept_8 (by decide) ?_
  refine x_cX (c9 := 1) (s9 := 6) (As := [_, _]) hO dL_kept_9 o_L_about s_L_about l_L_103 ⟨by decide, by decide⟩ ⟨rfl, rfl⟩ ⟨by omega, by omega⟩ rfl rfl (Nat.le_of_ble_eq_true rfl) (q_aboN hN hO hX hT (by decide) (z := ρ 2) rfl h (fun C1 h => ?_))
  dsimp only [Option.toList, List.cons_append, List.nil_append]
  refine x_l2i dL_kept_12 ?_
  rw [lN_i]
  refine x_istore_n dL_kept_13 (by decide) ?_
  refine x_lconst (v := 0) dL_kept_14 (by decide) ?_
  refine x_lstore_n dL_kept_15 (by decide) ?_
  refine x_lconst (v := 0) dL_kept_16 (by decide) ?_
  refine x_lstore dL_kept_17 (by decide) ?_
  refine x_lconst (v := 0) dL_kept_19 (by decide) ?_
  refine x_lstore dL_kept_20 (by decide) ?_
  refine x_lconst (v := 0) dL_kept_22 (by decide) ?_
  refine x_lstore dL_kept_23 (by decide) ?_
  refine x_iconst (v := nI 0) dL_kept_25 (by decide) ?_
  refine x_istore dL_kept_26 (by decide) ?_
  refine x_iload_n dL_kept_28 rfl ?_
  refine x_i2l dL_kept_29 ?_
  rw [nI_l (show ρ 1 < 2 ^ 31 by omega)]
  refine x_lconst (v := 0) dL_kept_30 (by decide) ?_
  refine x_ldc2 hO.1 dL_kept_31 k_L_186 ?_
  refine x_cS (c9 := 0) (s9 := 0) (As := [_, _, _]) hO dL_kept_34 o_L_in s_L_in l_L_164 ⟨by decide, by decide⟩ ⟨rfl, rfl⟩ ⟨by omega, by omega⟩ rfl rfl (Nat.le_of_ble_eq_true rfl) (m_in (fun r hr => ?_))
  dsimp only [Option.toList, List.cons_append, List.nil_append]
  refine x_if_eqN (tgt := 56) dL_kept_37 (by decide) (by rw [hr]; exact in_ok (a := 0) (v := ρ 1) (b := 8) (by omega) (by omega) (by omega)) ?_
  refine x_iload_n dL_kept_40 rfl ?_
  refine x_i2l dL_kept_41 ?_
  rw [nI_l (show ρ 2 < 2 ^ 31 by omega)]
  refine x_lconst (v := 0) dL_kept_42 (by decide) ?_
  refine x_ldc2 hO.1 dL_kept_43 k_L_188 ?_
  refine x_cS (c9 := 0) (s9 := 0) (As := [_, _, _]) hO dL_kept_46 o_L_in s_L_in l_L_164 ⟨by decide, by decide⟩ ⟨rfl, rfl⟩ ⟨by omega, by omega⟩ rfl rfl (Nat.le_of_ble_eq_true rfl) (m_in (fun r hr => ?_))
  dsimp only [Option.toList, List.cons_append, List.nil_append]
  refine x_if_eqN (tgt := 56) dL_kept_49 (by decide) (by rw [hr]; exact in_ok (a := 0) (v := ρ 2) (b := 5) (by omega) (by omega) (by omega)) ?_
  refine x_iconst (v := nI 1) dL_kept_52 (by decide) ?_
  refine x_goto (tgt := 57) dL_kept_53 (by decide) ?_
  refine x_istore dL_kept_57 (by decide) ?_
  refine x_iconst (v := nI 0) dL_kept_59 (by decide) ?_
  refine x_istore dL_kept_60 (by decide) ?_
  refine x_ls [(0, .ref x), (1, .int (nI (ρ 1))), (2, .int (nI (ρ 2))), (3, .long (lN (sm (fun b => ρ (bi b 6)) 0))), (5, .long (lN (sm (f8N ρ) 0))), (7, .long (lN (sm (fun b => ρ (bi b 1)) 0))), (9, .long (lN (sm (pvw ρ).2.2.1 0))), (11, .int (nI (mkN (pvw ρ).2.2.2.1 0))), (12, .int (nI 1)), (13, .int (nI 0))] ⟨rfl, rfl, rfl, rfl, rfl, rfl, rfl, rfl, rfl, rfl, trivial⟩ ?_
  refine x_room (k := 140 * ρ 1 + (64 * ρ 2 + 10)) (n := 1040 * ρ 1 + (384 * ρ 2 + 60)) (by omega) (by omega) ?_
  refine kp_1 hN hO hX hT w1 (ρ 1) 0 _ rfl h (fun C3 h => ?_)
  refine x_iconst (v := nI 0) dL_kept_482 (by decide) ?_
  refine x_istore dL_kept_483 (by decide) ?_
  refine x_iconst (v := nI 0) dL_kept_485 (by decide) ?_
  refine x_istore dL_kept_486 (by decide) ?_
  refine x_ls [(0, .ref x), (1, .int (nI (ρ 1))), (2, .int (nI (ρ 2))), (3, .long (lN (sm (fun b => ρ (bi b 6)) (ρ 1)))), (5, .long (lN (sm (f8N ρ) (ρ 1)))), (7, .long (lN (sm (fun b => ρ (bi b 1)) (ρ 1)))), (9, .long (lN (sm (pvw ρ).2.2.1 (ρ 1)))), (11, .int (nI (mkN (pvw ρ).2.2.2.1 (ρ 1)))), (12, .int (nI 1)), (13, .int (nI (mkN (fun q => some (plc (ordL ρ) q)) 0))), (14, .int (nI 0))] ⟨rfl, rfl, rfl, rfl, rfl, rfl, rfl, rfl, rfl, rfl, rfl, trivial⟩ ?_
  refine kc_2 hN hO hX hT w2 (ρ 2) 0 C3 rfl h (fun C4 h => ?_)
  refine x_iload dL_kept_722 rfl ?_
  refine x_if_eqN (tgt := 789) dL_kept_724 (by decide) (by decide) ?_
  refine x_lload_n dL_kept_727 rfl ?_
  refine x_aload_n dL_kept_728 rfl ?_
  refine x_bipush (v := nI 7) dL_kept_729 (by decide) ?_
  refine x_cX (c9 := 1) (s9 := 6) (As := [_, _]) hO dL_kept_731 o_L_about s_L_about l_L_103 ⟨by decide, by decide⟩ ⟨rfl, rfl⟩ ⟨by omega, by omega⟩ rfl rfl (Nat.le_of_ble_eq_true rfl) (q_aboN hN hO hX hT (by decide) (z := sm (fun b => ρ (bi b 6)) (ρ 1)) rfl h (fun C1 h => ?_))
  dsimp only [Option.toList, List.cons_append, List.nil_append]
  refine x_lc_neN (tgt := 789) dL_kept_734 dL_kept_735 (by decide) rfl ?_
  refine x_lload dL_kept_738 rfl ?_
  refine x_aload_n dL_kept_740 rfl ?_
  refine x_bipush (v := nI 8) dL_kept_741 (by decide) ?_
  refine x_cX (c9 := 1) (s9 := 6) (As := [_, _]) hO dL_kept_743 o_L_about s_L_about l_L_103 ⟨by decide, by decide⟩ ⟨rfl, rfl⟩ ⟨by omega, by omega⟩ rfl rfl (Nat.le_of_ble_eq_true rfl) (q_aboN hN hO hX hT (by decide) (z := sm (f8N ρ) (ρ 1)) rfl h (fun C1 h => ?_))
  dsimp only [Option.toList, List.cons_append, List.nil_append]
  refine x_lc_neN (tgt := 789) dL_kept_746 dL_kept_747 (by decide) rfl ?_
  refine x_lload dL_kept_750 rfl ?_
  refine x_aload_n dL_kept_752 rfl ?_
  refine x_bipush (v := nI 10) dL_kept_753 (by decide) ?_
  refine x_cX (c9 := 1) (s9 := 6) (As := [_, _]) hO dL_kept_755 o_L_about s_L_about l_L_103 ⟨by decide, by decide⟩ ⟨rfl, rfl⟩ ⟨by omega, by omega⟩ rfl rfl (Nat.le_of_ble_eq_true rfl) (q_aboN hN hO hX hT (by decide) (z := sm (fun b => ρ (bi b 1)) (ρ 1)) rfl h (fun C1 h => ?_))
  dsimp only [Option.toList, List.cons_append, List.nil_append]
  refine x_lc_neN (tgt := 789) dL_kept_758 dL_kept_759 (by decide) rfl ?_
  refine x_lload dL_kept_762 rfl ?_
  refine x_aload_n dL_kept_764 rfl ?_
  refine x_iconst (v := nI 0) dL_kept_765 (by decide) ?_
  refine x_cX (c9 := 1) (s9 := 6) (As := [_, _]) hO dL_kept_766 o_L_setting s_L_setting l_L_108 ⟨by decide, by decide⟩ ⟨rfl, rfl⟩ ⟨by omega, by omega⟩ rfl rfl (Nat.le_of_ble_eq_true rfl) (q_setN hN hO hX hT (by decide) (z := ρ 7) rfl h (fun C1 h => ?_))
  dsimp only [Option.toList, List.cons_append, List.nil_append]
  refine x_lc_gtN (tgt := 789) dL_kept_769 dL_kept_770 (by decide) (fun q => Nat.not_le_of_lt ((pk_lLT (by omega) (by omega)).mp q) (un_lim hW)) ?_
  refine x_aload_n dL_kept_773 rfl ?_
  refine x_iconst (v := nI 1) dL_kept_774 (by decide) ?_
  refine x_iconst (v := nI 1) dL_kept_775 (by decide) ?_
  refine x_cX (c9 := 2) (s9 := 12) (As := [_, _, _]) hO dL_kept_776 o_L_coming s_L_coming l_L_137 ⟨by decide, by decide⟩ ⟨rfl, rfl⟩ ⟨by omega, by omega⟩ rfl rfl (Nat.le_of_ble_eq_true rfl) (q_comN hN hO hX hT (by decide) (by decide) (by decide) next_un h (fun C1 h => ?_))
  dsimp only [Option.toList, List.cons_append, List.nil_append]
  refine x_lload dL_kept_779 rfl ?_
  refine x_lc_neN (tgt := 789) dL_kept_781 dL_kept_782 (by decide) rfl ?_
  refine x_iconst (v := nI 1) dL_kept_785 (by decide) ?_
  refine x_goto (tgt := 790) dL_kept_786 (by decide) ?_
  refine x_iret dL_kept_790 rfl (by first | rfl | assumption) ?_
  exact hq _ h

