/-! the law: calls that must be refused -/
section REF
variable {n b : Nat} {S : Nat → Nat} {ρ : Rw} {L : List Rw} {K : Nat → Option Rw}
theorem aRoute_1 {a l k : Int32} (h8 : ρ 1 ≤ 8) (hb : b < 2 ^ 30) (h : ρ 1 ≤ b) : aRoute (S, n, ρ, L, K) (nI b) a l k = (1, 0, (S, n, ρ, L, K)) := if_neg fun q => by have := (isB_N h8 hb).mp q; omega
theorem aRoute_2 {a l k : Int32} (h8 : ρ 1 ≤ 8) (h : b < ρ 1) (hr : ¬ okR a l k) : aRoute (S, n, ρ, L, K) (nI b) a l k = (2, 0, (S, n, ρ, L, K)) := by
  unfold aRoute
  rw [if_pos ((isB_N h8 (by omega)).mpr h), if_neg hr]
theorem aRoute_3 {a l k : Int32} (h8 : ρ 1 ≤ 8) (h : b < ρ 1) (hr : okR a l k) (ho : ρ (bi b 6) = 1) : aRoute (S, n, ρ, L, K) (nI b) a l k = (3, 0, (S, n, ρ, L, K)) := by
  unfold aRoute
  rw [if_pos ((isB_N h8 (by omega)).mpr h), if_pos hr, nI_clamp (by omega), if_pos ho]
theorem aBattery_1 {a : Int32} (h8 : ρ 1 ≤ 8) (hb : b < 2 ^ 30) (h : ρ 1 ≤ b) : aBattery (S, n, ρ, L, K) (nI b) a = (1, 0, (S, n, ρ, L, K)) := if_neg fun q => by have := (isB_N h8 hb).mp q; omega
theorem aBattery_2 {a : Int32} (h8 : ρ 1 ≤ 8) (h : b < ρ 1) (hr : ¬ (nI 10 ≤ a ∧ a ≤ nI 400)) : aBattery (S, n, ρ, L, K) (nI b) a = (2, 0, (S, n, ρ, L, K)) := by
  unfold aBattery
  rw [if_pos ((isB_N h8 (by omega)).mpr h), if_neg hr]
theorem aBattery_3 {a : Int32} (h8 : ρ 1 ≤ 8) (h : b < ρ 1) (hr : nI 10 ≤ a ∧ a ≤ nI 400) (ho : ρ (bi b 6) = 1) : aBattery (S, n, ρ, L, K) (nI b) a = (3, 0, (S, n, ρ, L, K)) := by
  unfold aBattery
  rw [if_pos ((isB_N h8 (by omega)).mpr h), if_pos hr, nI_clamp (by omega), if_pos ho]
theorem aAddC_2 {a : Int32} (hr : nI 1 ≤ a ∧ a ≤ nI 50) (h : ρ 2 = 5) : aAddC (S, n, ρ, L, K) a = (2, 0, (S, n, ρ, L, K)) := by
  unfold aAddC
  rw [if_pos hr, if_pos h]
theorem vIf_5 {a m : Int32} (hr : nI 1 ≤ a ∧ a ≤ nI 50) (hm : nI 1 ≤ m ∧ m ≤ nI 72) (h : ρ 2 = 5) : vIf ρ a m = jS := by
  unfold vIf
  rw [if_pos hr, if_pos hm, if_pos h]
theorem aAddBus_2 {a c d e f : Int32} (hr : okB a c d e f) (h : ρ 1 = 8) : aAddBus (S, n, ρ, L, K) a c d e f = (2, 0, (S, n, ρ, L, K)) := by
  unfold aAddBus
  rw [if_pos hr, if_pos h]
end REF

theorem vCo_bad {ρ : Rw} {m w : Int32} (h1 : nI 1 ≤ m ∧ m ≤ nI 72) (h : ¬ (nI 0 ≤ w ∧ w ≤ nI 3)) : vCo ρ m w = jA := by
  unfold vCo
  rw [if_pos h1, if_neg h]
theorem vSc_bad {ρ : Rw} {w : Int32} {v : Int64} (h1 : nI 1 ≤ w ∧ w ≤ nI 3) (h : ¬ (¬ v < 0 ∧ v.toNatClampNeg / 100000 ^ w.toNatClampNeg = 0)) : vSc ρ w v = jA := by
  unfold vSc
  rw [if_pos h1, if_neg h]
theorem err_5 {G : GT} {C : AH} {Q : QT} {C0 : AH} {sa va : Nat → Nat} {x T n : Nat} {S : Nat → Nat} {ρ : Rw} {L : List Rw} {K : Nat → Option Rw} (hN : GN G) (hO : GO G) (hX : GX G sa va) (hT : T ≤ 40000) (h : RF T C0 C x (S, n, ρ, L, K)) (hq : ∀ C' : AH, RF T C0 C' x (S, n, ρ, L, K) → Q (some (.int 1)) C') : Ex G M_L_errors Q NX (240) (1440) 702 [(0, .ref x), (1, .long (nowV ρ)), (3, .int (nI (ρ 1))), (4, .int (nI (ρ 2))), (5, .int (nI 1))] [] C := by
  have hk : Ok T ρ := h.1.1.1
  obtain ⟨hW, hB⟩ := id hk
  obtain ⟨w1, w2, w7, w8, w9, w10, w11, w11', w12, wB, wP⟩ := id hW
  refine x_iload dL_errors_702 rfl ?_
  refine x_if_eqN (tgt := 797) dL_errors_704 (by decide) (by decide) ?_
  refine x_aload_n dL_errors_707 rfl ?_
  refine x_iconst (v := nI 0) dL_errors_708 (by decide) ?_
  refine x_lconst (v := 0) dL_errors_709 (by decide) ?_
  refine x_cX (c9 := 2) (s9 := 12) (As := [_, _, _]) hO dL_errors_710 o_L_script s_L_script l_L_145 ⟨by decide, by decide⟩ ⟨rfl, rfl⟩ ⟨by omega, by omega⟩ rfl rfl (Nat.le_of_ble_eq_true rfl) (q_script hN hO hX hT h (fun C1 h => ?_))
  dsimp only [Option.toList, List.cons_append, List.nil_append]
  refine x_ldc2 hO.1 dL_errors_713 k_L_17 ?_
  refine x_lc_neN (tgt := 797) dL_errors_716 dL_errors_717 (by decide) (if_neg (by decide +kernel)) ?_
  refine x_aload_n dL_errors_720 rfl ?_
  refine x_iconst (v := nI 3) dL_errors_721 (by decide) ?_
  refine x_ldc2 hO.1 dL_errors_722 k_L_149 ?_
  refine x_cX (c9 := 2) (s9 := 12) (As := [_, _, _]) hO dL_errors_725 o_L_script s_L_script l_L_145 ⟨by decide, by decide⟩ ⟨rfl, rfl⟩ ⟨by omega, by omega⟩ rfl rfl (Nat.le_of_ble_eq_true rfl) (q_script hN hO hX hT h (fun C1 h => ?_))
  dsimp only [Option.toList, List.cons_append, List.nil_append]
  refine x_ldc2 hO.1 dL_errors_728 k_L_17 ?_
  refine x_lc_neN (tgt := 797) dL_errors_731 dL_errors_732 (by decide) (vSc_bad (by decide +kernel) (by decide +kernel)) ?_
  refine x_aload_n dL_errors_735 rfl ?_
  refine x_lconst (v := 1) dL_errors_736 (by decide) ?_
  refine x_iconst (v := nI 0) dL_errors_737 (by decide) ?_
  refine x_cX (c9 := 1) (s9 := 6) (As := [_, _, _]) hO dL_errors_738 o_L_simulate s_L_simulate l_L_151 ⟨by decide, by decide⟩ ⟨rfl, rfl⟩ ⟨by omega, by omega⟩ rfl rfl (Nat.le_of_ble_eq_true rfl) (q_simulate hN hO hX hT h (fun C1 h => ?_))
  dsimp only [Option.toList, List.cons_append, List.nil_append]
  refine x_ldc2 hO.1 dL_errors_741 k_L_17 ?_
  refine x_lc_neN (tgt := 797) dL_errors_744 dL_errors_745 (by decide) (if_neg (by decide +kernel)) ?_
  refine x_aload_n dL_errors_748 rfl ?_
  refine x_iconst (v := nI 2) dL_errors_749 (by decide) ?_
  refine x_cX (c9 := 1) (s9 := 6) (As := [_, _]) hO dL_errors_750 o_L_save s_L_save l_L_154 ⟨by decide, by decide⟩ ⟨rfl, rfl⟩ ⟨by omega, by omega⟩ rfl rfl (Nat.le_of_ble_eq_true rfl) (z_save hN hO hX hT h (if_neg (by decide +kernel)) (lw_1 rfl) (fun C1 h => ?_))
  dsimp only [Option.toList, List.cons_append, List.nil_append]
  refine x_ldc2 hO.1 dL_errors_753 k_L_36 ?_
  refine x_lc_neN (tgt := 797) dL_errors_756 dL_errors_757 (by decide) rfl ?_
  refine x_aload_n dL_errors_760 rfl ?_
  refine x_iconst (v := nI 2) dL_errors_761 (by decide) ?_
  refine x_cX (c9 := 2) (s9 := 12) (As := [_, _]) hO dL_errors_762 o_L_restore s_L_restore l_L_156 ⟨by decide, by decide⟩ ⟨rfl, rfl⟩ ⟨by omega, by omega⟩ rfl rfl (Nat.le_of_ble_eq_true rfl) (z_restore hN hO hX hT h (if_neg (by decide +kernel)) (lw_1 rfl) (fun C1 h => ?_))
  dsimp only [Option.toList, List.cons_append, List.nil_append]
  refine x_ldc2 hO.1 dL_errors_765 k_L_36 ?_
  refine x_lc_neN (tgt := 797) dL_errors_768 dL_errors_769 (by decide) rfl ?_
  refine x_aload_n dL_errors_772 rfl ?_
  refine x_iconst (v := (-1)) dL_errors_773 (by decide) ?_
  refine x_cX (c9 := 2) (s9 := 12) (As := [_, _]) hO dL_errors_774 o_L_append s_L_append l_L_158 ⟨by decide, by decide⟩ ⟨rfl, rfl⟩ ⟨by omega, by omega⟩ rfl rfl (Nat.le_of_ble_eq_true rfl) (z_append hN hO hX hT h (if_neg (by decide +kernel)) (lw_1 rfl) (fun C1 h => ?_))
  dsimp only [Option.toList, List.cons_append, List.nil_append]
  refine x_ldc2 hO.1 dL_errors_777 k_L_17 ?_
  refine x_lc_neN (tgt := 797) dL_errors_780 dL_errors_781 (by decide) rfl ?_
  refine x_aload_n dL_errors_784 rfl ?_
  refine x_cS (c9 := 220) (s9 := 1320) (As := [_]) hO dL_errors_785 o_L_now s_L_now l_L_115 ⟨by decide, by decide⟩ ⟨rfl, rfl⟩ ⟨by omega, by omega⟩ rfl rfl (Nat.le_of_ble_eq_true rfl) (m_now hN hO hX hT h (fun C1 h => ?_))
  dsimp only [Option.toList, List.cons_append, List.nil_append]
  refine x_lload_n dL_errors_788 rfl ?_
  refine x_lc_neN (tgt := 797) dL_errors_789 dL_errors_790 (by decide) rfl ?_
  refine x_iconst (v := nI 1) dL_errors_793 (by decide) ?_
  refine x_goto (tgt := 798) dL_errors_794 (by decide) ?_
  refine x_iret dL_errors_798 rfl (by first | rfl | assumption) ?_
  exact hq _ h

theorem err_4 {G : GT} {Q : QT} {C0 : AH} {sa va : Nat → Nat} {x T n : Nat} {S : Nat → Nat} {ρ : Rw} {L : List Rw} {K : Nat → Option Rw} {k0 n0 : Nat} (hN : GN G) (hO : GO G) (hX : GX G sa va) (hT : T ≤ 40000) (hk : Ok T ρ) : ∀ (m i : Nat) (C : AH), m + i = ρ 2 → RF T C0 C x (S, n, ρ, L, K) → (∀ C' : AH, RF T C0 C' x (S, n, ρ, L, K) → Ex G M_L_errors Q NX (k0) (n0) 702 [(0, .ref x), (1, .long (nowV ρ)), (3, .int (nI (ρ 1))), (4, .int (nI (ρ 2))), (5, .int (nI 1))] [] C') → Ex G M_L_errors Q NX (2 * m + k0) (12 * m + n0) 663 [(0, .ref x), (1, .long (nowV ρ)), (3, .int (nI (ρ 1))), (4, .int (nI (ρ 2))), (5, .int (nI 1)), (6, .int (nI i))] [] C := by
  obtain ⟨hW, hB⟩ := id hk
  obtain ⟨w1, w2, w7, w8, w9, w10, w11, w11', w12, wB, wP⟩ := id hW
  intro m
  induction m with
  | zero =>
    intro i C hi h kk
    refine x_iload dL_errors_663 rfl ?_
    refine x_iload dL_errors_665 rfl ?_
    refine x_icmp_geT (tgt := 702) dL_errors_667 (by decide) (nI_le (by omega) (by omega)) ?_
    refine x_ls [(0, .ref x), (1, .long (nowV ρ)), (3, .int (nI (ρ 1))), (4, .int (nI (ρ 2))), (5, .int (nI 1))] ⟨rfl, rfl, rfl, rfl, rfl, trivial⟩ ?_
    refine x_room (k := k0) (n := n0) (by omega) (by omega) ?_
    exact kk C h
  | succ m ih =>
    intro i C hi h kk
    have hc : i < ρ 2 := by omega
    refine x_iload dL_errors_663 rfl ?_
    refine x_iload dL_errors_665 rfl ?_
    refine x_icmp_geN (tgt := 702) dL_errors_667 (by decide) (nI_ge (by omega) (by omega)) ?_
    refine x_iload dL_errors_670 rfl ?_
    refine x_if_eqN (tgt := 702) dL_errors_672 (by decide) (by decide) ?_
    refine x_aload_n dL_errors_675 rfl ?_
    refine x_iload dL_errors_676 rfl ?_
    refine x_iconst (v := nI 3) dL_errors_678 (by decide) ?_
    refine x_cX (c9 := 2) (s9 := 12) (As := [_, _, _]) hO dL_errors_679 o_L_charger s_L_charger l_L_113 ⟨by decide, by decide⟩ ⟨rfl, rfl⟩ ⟨by omega, by omega⟩ rfl rfl (Nat.le_of_ble_eq_true rfl) (q_charger hN hO hX hT h (fun C1 h => ?_))
    dsimp only [Option.toList, List.cons_append, List.nil_append]
    refine x_ldc2 hO.1 dL_errors_682 k_L_17 ?_
    refine x_lc_neN (tgt := 693) dL_errors_685 dL_errors_686 (by decide) (vCh_bad w2 hc (by decide +kernel)) ?_
    refine x_iconst (v := nI 1) dL_errors_689 (by decide) ?_
    refine x_goto (tgt := 694) dL_errors_690 (by decide) ?_
    refine x_istore dL_errors_694 (by decide) ?_
    refine x_iinc (v := nI 1) dL_errors_696 rfl (by decide) (by decide) ?_
    refine x_goto (tgt := 663) dL_errors_699 (by decide) ?_
    refine x_ls [(0, .ref x), (1, .long (nowV ρ)), (3, .int (nI (ρ 1))), (4, .int (nI (ρ 2))), (5, .int (nI 1)), (6, .int (nI (i + 1)))] ⟨rfl, rfl, rfl, rfl, rfl, (by rw [← nI_add]; rfl), trivial⟩ ?_
    refine x_room (k := 2 * m + k0) (n := 12 * m + n0) (by omega) (by omega) ?_
    exact ih (i + 1) _ (by omega) h kk

theorem err_3 {G : GT} {Q : QT} {C0 : AH} {sa va : Nat → Nat} {x T n : Nat} {S : Nat → Nat} {ρ : Rw} {L : List Rw} {K : Nat → Option Rw} {k0 n0 : Nat} (hN : GN G) (hO : GO G) (hX : GX G sa va) (hT : T ≤ 40000) (hk : Ok T ρ) : ∀ (m i : Nat) (C : AH), m + i = ρ 1 → RF T C0 C x (S, n, ρ, L, K) → (∀ C' : AH, RF T C0 C' x (S, n, ρ, L, K) → Ex G M_L_errors Q NX (k0) (n0) 660 [(0, .ref x), (1, .long (nowV ρ)), (3, .int (nI (ρ 1))), (4, .int (nI (ρ 2))), (5, .int (nI 1))] [] C') → Ex G M_L_errors Q NX (30 * m + k0) (200 * m + n0) 502 [(0, .ref x), (1, .long (nowV ρ)), (3, .int (nI (ρ 1))), (4, .int (nI (ρ 2))), (5, .int (nI 1)), (6, .int (nI i))] [] C := by
  obtain ⟨hW, hB⟩ := id hk
  obtain ⟨w1, w2, w7, w8, w9, w10, w11, w11', w12, wB, wP⟩ := id hW
  intro m
  induction m with
  | zero =>
    intro i C hi h kk
    refine x_iload dL_errors_502 rfl ?_
    refine x_iload_n dL_errors_504 rfl ?_
    refine x_icmp_geT (tgt := 660) dL_errors_505 (by decide) (nI_le (by omega) (by omega)) ?_
    refine x_ls [(0, .ref x), (1, .long (nowV ρ)), (3, .int (nI (ρ 1))), (4, .int (nI (ρ 2))), (5, .int (nI 1))] ⟨rfl, rfl, rfl, rfl, rfl, trivial⟩ ?_
    refine x_room (k := k0) (n := n0) (by omega) (by omega) ?_
    exact kk C h
  | succ m ih =>
    intro i C hi h kk
    have hb : i < ρ 1 := by omega
    have ho9 := (wB i hb).2.2.2.2.2.2.2.2
    rcases (show ρ (bi i 6) = 1 ∨ ρ (bi i 6) = 0 by omega) with ho | ho
    · skip
      refine x_iload dL_errors_502 rfl ?_
      refine x_iload_n dL_errors_504 rfl ?_
      refine x_icmp_geN (tgt := 660) dL_errors_505 (by decide) (nI_ge (by omega) (by omega)) ?_
      refine x_iload dL_errors_508 rfl ?_
      refine x_if_eqN (tgt := 660) dL_errors_510 (by decide) (by decide) ?_
      refine x_aload_n dL_errors_513 rfl ?_
      refine x_iload dL_errors_514 rfl ?_
      refine x_bipush (v := nI 6) dL_errors_516 (by decide) ?_
      refine x_cX (c9 := 2) (s9 := 12) (As := [_, _, _]) hO dL_errors_518 o_L_bus s_L_bus l_L_110 ⟨by decide, by decide⟩ ⟨rfl, rfl⟩ ⟨by omega, by omega⟩ rfl rfl (Nat.le_of_ble_eq_true rfl) (q_bus hN hO hX hT h (fun C1 h => ?_))
      dsimp only [Option.toList, List.cons_append, List.nil_append]
      rw [vBu_N hk (by omega) hb (by decide) (by decide), show buN ρ i 6 = ρ (bi i 6) from rfl, ho]
      refine x_lconst (v := 1) dL_errors_521 (by decide) ?_
      refine x_lc_neN (tgt := 530) dL_errors_522 dL_errors_523 (by decide) rfl ?_
      refine x_iconst (v := nI 1) dL_errors_526 (by decide) ?_
      refine x_goto (tgt := 531) dL_errors_527 (by decide) ?_
      refine x_istore dL_errors_531 (by decide) ?_
      refine x_aload_n dL_errors_533 rfl ?_
      refine x_iload dL_errors_534 rfl ?_
      refine x_bipush (v := nI 10) dL_errors_536 (by decide) ?_
      refine x_cX (c9 := 2) (s9 := 12) (As := [_, _, _]) hO dL_errors_538 o_L_bus s_L_bus l_L_110 ⟨by decide, by decide⟩ ⟨rfl, rfl⟩ ⟨by omega, by omega⟩ rfl rfl (Nat.le_of_ble_eq_true rfl) (q_bus hN hO hX hT h (fun C1 h => ?_))
      dsimp only [Option.toList, List.cons_append, List.nil_append]
      refine x_ldc2 hO.1 dL_errors_541 k_L_17 ?_
      refine x_lc_neN (tgt := 651) dL_errors_544 dL_errors_545 (by decide) (vBu_bad w1 hb (by decide +kernel)) ?_
      refine x_aload_n dL_errors_548 rfl ?_
      refine x_iload dL_errors_549 rfl ?_
      refine x_iconst (v := (-1)) dL_errors_551 (by decide) ?_
      refine x_cX (c9 := 4) (s9 := 32) (As := [_, _, _]) hO dL_errors_552 o_L_sign s_L_sign l_L_119 ⟨by decide, by decide⟩ ⟨rfl, rfl⟩ ⟨by omega, by omega⟩ rfl rfl (Nat.le_of_ble_eq_true rfl) (q_sign hN hO hX hT h (fun C1 h => ?_))
      dsimp only [Option.toList, List.cons_append, List.nil_append]
      refine x_ldc2 hO.1 dL_errors_555 k_L_17 ?_
      refine x_lc_neN (tgt := 651) dL_errors_558 dL_errors_559 (by decide) (vSi_bad w1 hb (by decide +kernel)) ?_
      refine x_aload_n dL_errors_562 rfl ?_
      refine x_iload dL_errors_563 rfl ?_
      refine x_sipush (v := nI 401) dL_errors_565 (by decide) ?_
      refine x_iconst (v := nI 0) dL_errors_568 (by decide) ?_
      refine x_iconst (v := nI 1) dL_errors_569 (by decide) ?_
      refine x_cX (c9 := 3) (s9 := 18) (As := [_, _, _, _, _]) hO dL_errors_570 o_L_route s_L_route l_L_128 ⟨by decide, by decide⟩ ⟨rfl, rfl⟩ ⟨by omega, by omega⟩ rfl rfl (Nat.le_of_ble_eq_true rfl) (z_route hN hO hX hT h (aRoute_2 w1 hb (by decide +kernel)) (lw_2 rfl) (fun C1 h => ?_))
      dsimp only [Option.toList, List.cons_append, List.nil_append]
      refine x_ldc2 hO.1 dL_errors_573 k_L_17 ?_
      refine x_lc_neN (tgt := 651) dL_errors_576 dL_errors_577 (by decide) rfl ?_
      refine x_aload_n dL_errors_580 rfl ?_
      refine x_iload dL_errors_581 rfl ?_
      refine x_iconst (v := nI 5) dL_errors_583 (by decide) ?_
      refine x_iconst (v := nI 3) dL_errors_584 (by decide) ?_
      refine x_iconst (v := nI 3) dL_errors_585 (by decide) ?_
      refine x_cX (c9 := 3) (s9 := 18) (As := [_, _, _, _, _]) hO dL_errors_586 o_L_route s_L_route l_L_128 ⟨by decide, by decide⟩ ⟨rfl, rfl⟩ ⟨by omega, by omega⟩ rfl rfl (Nat.le_of_ble_eq_true rfl) (z_route hN hO hX hT h (aRoute_2 w1 hb (by decide +kernel)) (lw_2 rfl) (fun C1 h => ?_))
      dsimp only [Option.toList, List.cons_append, List.nil_append]
      refine x_ldc2 hO.1 dL_errors_589 k_L_17 ?_
      refine x_lc_neN (tgt := 651) dL_errors_592 dL_errors_593 (by decide) rfl ?_
      refine x_aload_n dL_errors_596 rfl ?_
      refine x_iload dL_errors_597 rfl ?_
      refine x_bipush (v := nI 9) dL_errors_599 (by decide) ?_
      refine x_cX (c9 := 3) (s9 := 18) (As := [_, _, _]) hO dL_errors_601 o_L_battery s_L_battery l_L_131 ⟨by decide, by decide⟩ ⟨rfl, rfl⟩ ⟨by omega, by omega⟩ rfl rfl (Nat.le_of_ble_eq_true rfl) (z_battery hN hO hX hT h (aBattery_2 w1 hb (by decide +kernel)) (lw_2 rfl) (fun C1 h => ?_))
      dsimp only [Option.toList, List.cons_append, List.nil_append]
      refine x_ldc2 hO.1 dL_errors_604 k_L_17 ?_
      refine x_lc_neN (tgt := 651) dL_errors_607 dL_errors_608 (by decide) rfl ?_
      refine x_iload dL_errors_611 rfl ?_
      refine x_if_eqN (tgt := 647) dL_errors_613 (by decide) (by decide) ?_
      refine x_aload_n dL_errors_616 rfl ?_
      refine x_iload dL_errors_617 rfl ?_
      refine x_iconst (v := nI 5) dL_errors_619 (by decide) ?_
      refine x_iconst (v := nI 0) dL_errors_620 (by decide) ?_
      refine x_iconst (v := nI 1) dL_errors_621 (by decide) ?_
      refine x_cX (c9 := 3) (s9 := 18) (As := [_, _, _, _, _]) hO dL_errors_622 o_L_route s_L_route l_L_128 ⟨by decide, by decide⟩ ⟨rfl, rfl⟩ ⟨by omega, by omega⟩ rfl rfl (Nat.le_of_ble_eq_true rfl) (z_route hN hO hX hT h (aRoute_3 w1 hb (by decide +kernel) ho) (lw_3 rfl) (fun C1 h => ?_))
      dsimp only [Option.toList, List.cons_append, List.nil_append]
      refine x_ldc2 hO.1 dL_errors_625 k_L_21 ?_
      refine x_lc_neN (tgt := 651) dL_errors_628 dL_errors_629 (by decide) rfl ?_
      refine x_aload_n dL_errors_632 rfl ?_
      refine x_iload dL_errors_633 rfl ?_
      refine x_bipush (v := nI 50) dL_errors_635 (by decide) ?_
      refine x_cX (c9 := 3) (s9 := 18) (As := [_, _, _]) hO dL_errors_637 o_L_battery s_L_battery l_L_131 ⟨by decide, by decide⟩ ⟨rfl, rfl⟩ ⟨by omega, by omega⟩ rfl rfl (Nat.le_of_ble_eq_true rfl) (z_battery hN hO hX hT h (aBattery_3 w1 hb (by decide +kernel) ho) (lw_3 rfl) (fun C1 h => ?_))
      dsimp only [Option.toList, List.cons_append, List.nil_append]
      refine x_ldc2 hO.1 dL_errors_640 k_L_21 ?_
      refine x_lc_neN (tgt := 651) dL_errors_643 dL_errors_644 (by decide) rfl ?_
      refine x_iconst (v := nI 1) dL_errors_647 (by decide) ?_
      refine x_goto (tgt := 652) dL_errors_648 (by decide) ?_
      refine x_istore dL_errors_652 (by decide) ?_
      refine x_iinc (v := nI 1) dL_errors_654 rfl (by decide) (by decide) ?_
      refine x_goto (tgt := 502) dL_errors_657 (by decide) ?_
      refine x_ls [(0, .ref x), (1, .long (nowV ρ)), (3, .int (nI (ρ 1))), (4, .int (nI (ρ 2))), (5, .int (nI 1)), (6, .int (nI (i + 1)))] ⟨rfl, rfl, rfl, rfl, rfl, (by rw [← nI_add]; rfl), trivial⟩ ?_
      refine x_room (k := 30 * m + k0) (n := 200 * m + n0) (by omega) (by omega) ?_
      exact ih (i + 1) _ (by omega) h kk
    · skip
      refine x_iload dL_errors_502 rfl ?_
      refine x_iload_n dL_errors_504 rfl ?_
      refine x_icmp_geN (tgt := 660) dL_errors_505 (by decide) (nI_ge (by omega) (by omega)) ?_
      refine x_iload dL_errors_508 rfl ?_
      refine x_if_eqN (tgt := 660) dL_errors_510 (by decide) (by decide) ?_
      refine x_aload_n dL_errors_513 rfl ?_
      refine x_iload dL_errors_514 rfl ?_
      refine x_bipush (v := nI 6) dL_errors_516 (by decide) ?_
      refine x_cX (c9 := 2) (s9 := 12) (As := [_, _, _]) hO dL_errors_518 o_L_bus s_L_bus l_L_110 ⟨by decide, by decide⟩ ⟨rfl, rfl⟩ ⟨by omega, by omega⟩ rfl rfl (Nat.le_of_ble_eq_true rfl) (q_bus hN hO hX hT h (fun C1 h => ?_))
      dsimp only [Option.toList, List.cons_append, List.nil_append]
      rw [vBu_N hk (by omega) hb (by decide) (by decide), show buN ρ i 6 = ρ (bi i 6) from rfl, ho]
      refine x_lconst (v := 1) dL_errors_521 (by decide) ?_
      refine x_lc_neT (tgt := 530) dL_errors_522 dL_errors_523 (by decide) (by decide) ?_
      refine x_iconst (v := nI 0) dL_errors_530 (by decide) ?_
      refine x_istore dL_errors_531 (by decide) ?_
      refine x_aload_n dL_errors_533 rfl ?_
      refine x_iload dL_errors_534 rfl ?_
      refine x_bipush (v := nI 10) dL_errors_536 (by decide) ?_
      refine x_cX (c9 := 2) (s9 := 12) (As := [_, _, _]) hO dL_errors_538 o_L_bus s_L_bus l_L_110 ⟨by decide, by decide⟩ ⟨rfl, rfl⟩ ⟨by omega, by omega⟩ rfl rfl (Nat.le_of_ble_eq_true rfl) (q_bus hN hO hX hT h (fun C1 h => ?_))
      dsimp only [Option.toList, List.cons_append, List.nil_append]
      refine x_ldc2 hO.1 dL_errors_541 k_L_17 ?_
      refine x_lc_neN (tgt := 651) dL_errors_544 dL_errors_545 (by decide) (vBu_bad w1 hb (by decide +kernel)) ?_
      refine x_aload_n dL_errors_548 rfl ?_
      refine x_iload dL_errors_549 rfl ?_
      refine x_iconst (v := (-1)) dL_errors_551 (by decide) ?_
      refine x_cX (c9 := 4) (s9 := 32) (As := [_, _, _]) hO dL_errors_552 o_L_sign s_L_sign l_L_119 ⟨by decide, by decide⟩ ⟨rfl, rfl⟩ ⟨by omega, by omega⟩ rfl rfl (Nat.le_of_ble_eq_true rfl) (q_sign hN hO hX hT h (fun C1 h => ?_))
      dsimp only [Option.toList, List.cons_append, List.nil_append]
      refine x_ldc2 hO.1 dL_errors_555 k_L_17 ?_
      refine x_lc_neN (tgt := 651) dL_errors_558 dL_errors_559 (by decide) (vSi_bad w1 hb (by decide +kernel)) ?_
      refine x_aload_n dL_errors_562 rfl ?_
      refine x_iload dL_errors_563 rfl ?_
      refine x_sipush (v := nI 401) dL_errors_565 (by decide) ?_
      refine x_iconst (v := nI 0) dL_errors_568 (by decide) ?_
      refine x_iconst (v := nI 1) dL_errors_569 (by decide) ?_
      refine x_cX (c9 := 3) (s9 := 18) (As := [_, _, _, _, _]) hO dL_errors_570 o_L_route s_L_route l_L_128 ⟨by decide, by decide⟩ ⟨rfl, rfl⟩ ⟨by omega, by omega⟩ rfl rfl (Nat.le_of_ble_eq_true rfl) (z_route hN hO hX hT h (aRoute_2 w1 hb (by decide +kernel)) (lw_2 rfl) (fun C1 h => ?_))
      dsimp only [Option.toList, List.cons_append, List.nil_append]
      refine x_ldc2 hO.1 dL_errors_573 k_L_17 ?_
      refine x_lc_neN (tgt := 651) dL_errors_576 dL_errors_577 (by decide) rfl ?_
      refine x_aload_n dL_errors_580 rfl ?_
      refine x_iload dL_errors_581 rfl ?_
      refine x_iconst (v := nI 5) dL_errors_583 (by decide) ?_
      refine x_iconst (v := nI 3) dL_errors_584 (by decide) ?_
      refine x_iconst (v := nI 3) dL_errors_585 (by decide) ?_
      refine x_cX (c9 := 3) (s9 := 18) (As := [_, _, _, _, _]) hO dL_errors_586 o_L_route s_L_route l_L_128 ⟨by decide, by decide⟩ ⟨rfl, rfl⟩ ⟨by omega, by omega⟩ rfl rfl (Nat.le_of_ble_eq_true rfl) (z_route hN hO hX hT h (aRoute_2 w1 hb (by decide +kernel)) (lw_2 rfl) (fun C1 h => ?_))
      dsimp only [Option.toList, List.cons_append, List.nil_append]
      refine x_ldc2 hO.1 dL_errors_589 k_L_17 ?_
      refine x_lc_neN (tgt := 651) dL_errors_592 dL_errors_593 (by decide) rfl ?_
      refine x_aload_n dL_errors_596 rfl ?_
      refine x_iload dL_errors_597 rfl ?_
      refine x_bipush (v := nI 9) dL_errors_599 (by decide) ?_
      refine x_cX (c9 := 3) (s9 := 18) (As := [_, _, _]) hO dL_errors_601 o_L_battery s_L_battery l_L_131 ⟨by decide, by decide⟩ ⟨rfl, rfl⟩ ⟨by omega, by omega⟩ rfl rfl (Nat.le_of_ble_eq_true rfl) (z_battery hN hO hX hT h (aBattery_2 w1 hb (by decide +kernel)) (lw_2 rfl) (fun C1 h => ?_))
      dsimp only [Option.toList, List.cons_append, List.nil_append]
      refine x_ldc2 hO.1 dL_errors_604 k_L_17 ?_
      refine x_lc_neN (tgt := 651) dL_errors_607 dL_errors_608 (by decide) rfl ?_
      refine x_iload dL_errors_611 rfl ?_
      refine x_if_eqT (tgt := 647) dL_errors_613 (by decide) rfl ?_
      refine x_iconst (v := nI 1) dL_errors_647 (by decide) ?_
      refine x_goto (tgt := 652) dL_errors_648 (by decide) ?_
      refine x_istore dL_errors_652 (by decide) ?_
      refine x_iinc (v := nI 1) dL_errors_654 rfl (by decide) (by decide) ?_
      refine x_goto (tgt := 502) dL_errors_657 (by decide) ?_
      refine x_ls [(0, .ref x), (1, .long (nowV ρ)), (3, .int (nI (ρ 1))), (4, .int (nI (ρ 2))), (5, .int (nI 1)), (6, .int (nI (i + 1)))] ⟨rfl, rfl, rfl, rfl, rfl, (by rw [← nI_add]; rfl), trivial⟩ ?_
      refine x_room (k := 30 * m + k0) (n := 200 * m + n0) (by omega) (by omega) ?_
      exact ih (i + 1) _ (by omega) h kk

theorem err_2 {G : GT} {C : AH} {Q : QT} {C0 : AH} {sa va : Nat → Nat} {x T n : Nat} {S : Nat → Nat} {ρ : Rw} {L : List Rw} {K : Nat → Option Rw} (hN : GN G) (hO : GO G) (hX : GX G sa va) (hT : T ≤ 40000) (h : RF T C0 C x (S, n, ρ, L, K)) (hq : ∀ C' : AH, RF T C0 C' x (S, n, ρ, L, K) → Q (some (.int 1)) C') : Ex G M_L_errors Q NX (540) (3300) 305 [(0, .ref x), (1, .long (nowV ρ)), (3, .int (nI (ρ 1))), (4, .int (nI (ρ 2)))] [] C := by
  have hk : Ok T ρ := h.1.1.1
  obtain ⟨hW, hB⟩ := id hk
  obtain ⟨w1, w2, w7, w8, w9, w10, w11, w11', w12, wB, wP⟩ := id hW
  refine x_aload_n dL_errors_305 rfl ?_
  refine x_iload_n dL_errors_306 rfl ?_
  refine x_iconst (v := nI 1) dL_errors_307 (by decide) ?_
  refine x_iconst (v := nI 0) dL_errors_308 (by decide) ?_
  refine x_iconst (v := nI 0) dL_errors_309 (by decide) ?_
  refine x_cX (c9 := 3) (s9 := 18) (As := [_, _, _, _, _]) hO dL_errors_310 o_L_route s_L_route l_L_128 ⟨by decide, by decide⟩ ⟨rfl, rfl⟩ ⟨by omega, by omega⟩ rfl rfl (Nat.le_of_ble_eq_true rfl) (z_route hN hO hX hT h (aRoute_1 w1 (by omega) (Nat.le_refl _)) (lw_1 rfl) (fun C1 h => ?_))
  dsimp only [Option.toList, List.cons_append, List.nil_append]
  refine x_ldc2 hO.1 dL_errors_313 k_L_36 ?_
  refine x_lc_neN (tgt := 496) dL_errors_316 dL_errors_317 (by decide) rfl ?_
  refine x_aload_n dL_errors_320 rfl ?_
  refine x_iload_n dL_errors_321 rfl ?_
  refine x_bipush (v := nI 9) dL_errors_322 (by decide) ?_
  refine x_cX (c9 := 3) (s9 := 18) (As := [_, _, _]) hO dL_errors_324 o_L_battery s_L_battery l_L_131 ⟨by decide, by decide⟩ ⟨rfl, rfl⟩ ⟨by omega, by omega⟩ rfl rfl (Nat.le_of_ble_eq_true rfl) (z_battery hN hO hX hT h (aBattery_1 w1 (by omega) (Nat.le_refl _)) (lw_1 rfl) (fun C1 h => ?_))
  dsimp only [Option.toList, List.cons_append, List.nil_append]
  refine x_ldc2 hO.1 dL_errors_327 k_L_36 ?_
  refine x_lc_neN (tgt := 496) dL_errors_330 dL_errors_331 (by decide) rfl ?_
  refine x_aload_n dL_errors_334 rfl ?_
  refine x_iconst (v := nI 0) dL_errors_335 (by decide) ?_
  refine x_cX (c9 := 1) (s9 := 6) (As := [_, _]) hO dL_errors_336 o_L_run s_L_run l_L_133 ⟨by decide, by decide⟩ ⟨rfl, rfl⟩ ⟨by omega, by omega⟩ rfl rfl (Nat.le_of_ble_eq_true rfl) (z_run hN hO hX hT h (if_neg (by decide +kernel)) (lw_1 rfl) (fun C1 h => ?_))
  dsimp only [Option.toList, List.cons_append, List.nil_append]
  refine x_ldc2 hO.1 dL_errors_339 k_L_17 ?_
  refine x_lc_neN (tgt := 496) dL_errors_342 dL_errors_343 (by decide) rfl ?_
  refine x_aload_n dL_errors_346 rfl ?_
  refine x_bipush (v := nI 49) dL_errors_347 (by decide) ?_
  refine x_cX (c9 := 1) (s9 := 6) (As := [_, _]) hO dL_errors_349 o_L_run s_L_run l_L_133 ⟨by decide, by decide⟩ ⟨rfl, rfl⟩ ⟨by omega, by omega⟩ rfl rfl (Nat.le_of_ble_eq_true rfl) (z_run hN hO hX hT h (if_neg (by decide +kernel)) (lw_1 rfl) (fun C1 h => ?_))
  dsimp only [Option.toList, List.cons_append, List.nil_append]
  refine x_ldc2 hO.1 dL_errors_352 k_L_17 ?_
  refine x_lc_neN (tgt := 496) dL_errors_355 dL_errors_356 (by decide) rfl ?_
  refine x_aload_n dL_errors_359 rfl ?_
  refine x_iconst (v := nI 0) dL_errors_360 (by decide) ?_
  refine x_iconst (v := (-1)) dL_errors_361 (by decide) ?_
  refine x_cX (c9 := 1) (s9 := 6) (As := [_, _, _]) hO dL_errors_362 o_L_set s_L_set l_L_135 ⟨by decide, by decide⟩ ⟨rfl, rfl⟩ ⟨by omega, by omega⟩ rfl rfl (Nat.le_of_ble_eq_true rfl) (z_set hN hO hX hT h (if_neg (by decide +kernel)) (lw_1 rfl) (fun C1 h => ?_))
  dsimp only [Option.toList, List.cons_append, List.nil_append]
  refine x_ldc2 hO.1 dL_errors_365 k_L_17 ?_
  refine x_lc_neN (tgt := 496) dL_errors_368 dL_errors_369 (by decide) rfl ?_
  refine x_aload_n dL_errors_372 rfl ?_
  refine x_iconst (v := nI 4) dL_errors_373 (by decide) ?_
  refine x_iconst (v := nI 0) dL_errors_374 (by decide) ?_
  refine x_cX (c9 := 1) (s9 := 6) (As := [_, _, _]) hO dL_errors_375 o_L_set s_L_set l_L_135 ⟨by decide, by decide⟩ ⟨rfl, rfl⟩ ⟨by omega, by omega⟩ rfl rfl (Nat.le_of_ble_eq_true rfl) (z_set hN hO hX hT h (if_neg (by decide +kernel)) (lw_1 rfl) (fun C1 h => ?_))
  dsimp only [Option.toList, List.cons_append, List.nil_append]
  refine x_ldc2 hO.1 dL_errors_378 k_L_17 ?_
  refine x_lc_neN (tgt := 496) dL_errors_381 dL_errors_382 (by decide) rfl ?_
  refine x_aload_n dL_errors_385 rfl ?_
  refine x_iconst (v := nI 5) dL_errors_386 (by decide) ?_
  refine x_bipush (v := nI 24) dL_errors_387 (by decide) ?_
  refine x_cX (c9 := 1) (s9 := 6) (As := [_, _, _]) hO dL_errors_389 o_L_set s_L_set l_L_135 ⟨by decide, by decide⟩ ⟨rfl, rfl⟩ ⟨by omega, by omega⟩ rfl rfl (Nat.le_of_ble_eq_true rfl) (z_set hN hO hX hT h (if_neg (by decide +kernel)) (lw_1 rfl) (fun C1 h => ?_))
  dsimp only [Option.toList, List.cons_append, List.nil_append]
  refine x_ldc2 hO.1 dL_errors_392 k_L_17 ?_
  refine x_lc_neN (tgt := 496) dL_errors_395 dL_errors_396 (by decide) rfl ?_
  refine x_aload_n dL_errors_399 rfl ?_
  refine x_bipush (v := nI 6) dL_errors_400 (by decide) ?_
  refine x_iconst (v := nI 1) dL_errors_402 (by decide) ?_
  refine x_cX (c9 := 1) (s9 := 6) (As := [_, _, _]) hO dL_errors_403 o_L_set s_L_set l_L_135 ⟨by decide, by decide⟩ ⟨rfl, rfl⟩ ⟨by omega, by omega⟩ rfl rfl (Nat.le_of_ble_eq_true rfl) (z_set hN hO hX hT h (if_neg (by decide +kernel)) (lw_1 rfl) (fun C1 h => ?_))
  dsimp only [Option.toList, List.cons_append, List.nil_append]
  refine x_ldc2 hO.1 dL_errors_406 k_L_17 ?_
  refine x_lc_neN (tgt := 496) dL_errors_409 dL_errors_410 (by decide) rfl ?_
  refine x_aload_n dL_errors_413 rfl ?_
  refine x_iconst (v := nI 0) dL_errors_414 (by decide) ?_
  refine x_iconst (v := nI 0) dL_errors_415 (by decide) ?_
  refine x_cX (c9 := 2) (s9 := 12) (As := [_, _, _]) hO dL_errors_416 o_L_coming s_L_coming l_L_137 ⟨by decide, by decide⟩ ⟨rfl, rfl⟩ ⟨by omega, by omega⟩ rfl rfl (Nat.le_of_ble_eq_true rfl) (q_coming hN hO hX hT h (fun C1 h => ?_))
  dsimp only [Option.toList, List.cons_append, List.nil_append]
  refine x_ldc2 hO.1 dL_errors_419 k_L_17 ?_
  refine x_lc_neN (tgt := 496) dL_errors_422 dL_errors_423 (by decide) (if_neg (by decide +kernel)) ?_
  refine x_aload_n dL_errors_426 rfl ?_
  refine x_bipush (v := nI 9) dL_errors_427 (by decide) ?_
  refine x_iconst (v := nI 4) dL_errors_429 (by decide) ?_
  refine x_cX (c9 := 2) (s9 := 12) (As := [_, _, _]) hO dL_errors_430 o_L_coming s_L_coming l_L_137 ⟨by decide, by decide⟩ ⟨rfl, rfl⟩ ⟨by omega, by omega⟩ rfl rfl (Nat.le_of_ble_eq_true rfl) (q_coming hN hO hX hT h (fun C1 h => ?_))
  dsimp only [Option.toList, List.cons_append, List.nil_append]
  refine x_ldc2 hO.1 dL_errors_433 k_L_17 ?_
  refine x_lc_neN (tgt := 496) dL_errors_436 dL_errors_437 (by decide) (vCo_bad (by decide +kernel) (by decide +kernel)) ?_
  refine x_aload_n dL_errors_440 rfl ?_
  refine x_iload_n dL_errors_441 rfl ?_
  refine x_cX (c9 := 1) (s9 := 6) (As := [_, _]) hO dL_errors_442 o_L_firstMissed s_L_firstMissed l_L_139 ⟨by decide, by decide⟩ ⟨rfl, rfl⟩ ⟨by omega, by omega⟩ rfl rfl (Nat.le_of_ble_eq_true rfl) (q_firstMissed hN hO hX hT h (fun C1 h => ?_))
  dsimp only [Option.toList, List.cons_append, List.nil_append]
  refine x_ldc2 hO.1 dL_errors_445 k_L_36 ?_
  refine x_lc_neN (tgt := 496) dL_errors_448 dL_errors_449 (by decide) (vFi_out w1 (by omega) (Nat.le_refl _)) ?_
  refine x_aload_n dL_errors_452 rfl ?_
  refine x_bipush (v := nI 73) dL_errors_453 (by decide) ?_
  refine x_cX (c9 := 1) (s9 := 6) (As := [_, _]) hO dL_errors_455 o_L_leastLimit s_L_leastLimit l_L_141 ⟨by decide, by decide⟩ ⟨rfl, rfl⟩ ⟨by omega, by omega⟩ rfl rfl (Nat.le_of_ble_eq_true rfl) (q_leastLimit hN hO hX hT h (fun C1 h => ?_))
  dsimp only [Option.toList, List.cons_append, List.nil_append]
  refine x_ldc2 hO.1 dL_errors_458 k_L_17 ?_
  refine x_lc_neN (tgt := 496) dL_errors_461 dL_errors_462 (by decide) (if_neg (by decide +kernel)) ?_
  refine x_aload_n dL_errors_465 rfl ?_
  refine x_iconst (v := nI 0) dL_errors_466 (by decide) ?_
  refine x_cX (c9 := 1) (s9 := 6) (As := [_, _]) hO dL_errors_467 o_L_bestNight s_L_bestNight l_L_143 ⟨by decide, by decide⟩ ⟨rfl, rfl⟩ ⟨by omega, by omega⟩ rfl rfl (Nat.le_of_ble_eq_true rfl) (q_bestNight hN hO hX hT h (fun C1 h => ?_))
  dsimp only [Option.toList, List.cons_append, List.nil_append]
  refine x_ldc2 hO.1 dL_errors_470 k_L_17 ?_
  refine x_lc_neN (tgt := 496) dL_errors_473 dL_errors_474 (by decide) (if_neg (by decide +kernel)) ?_
  refine x_aload_n dL_errors_477 rfl ?_
  refine x_bipush (v := nI 51) dL_errors_478 (by decide) ?_
  refine x_bipush (v := nI 9) dL_errors_480 (by decide) ?_
  refine x_cX (c9 := 3) (s9 := 18) (As := [_, _, _]) hO dL_errors_482 o_L_ifPlugged s_L_ifPlugged l_L_126 ⟨by decide, by decide⟩ ⟨rfl, rfl⟩ ⟨by omega, by omega⟩ rfl rfl (Nat.le_of_ble_eq_true rfl) (q_ifPlugged hN hO hX hT h (fun C1 h => ?_))
  dsimp only [Option.toList, List.cons_append, List.nil_append]
  refine x_ldc2 hO.1 dL_errors_485 k_L_17 ?_
  refine x_lc_neN (tgt := 496) dL_errors_488 dL_errors_489 (by decide) (if_neg (by decide +kernel)) ?_
  refine x_iconst (v := nI 1) dL_errors_492 (by decide) ?_
  refine x_goto (tgt := 497) dL_errors_493 (by decide) ?_
  refine x_istore dL_errors_497 (by decide) ?_
  refine x_iconst (v := nI 0) dL_errors_499 (by decide) ?_
  refine x_istore dL_errors_500 (by decide) ?_
  refine x_ls [(0, .ref x), (1, .long (nowV ρ)), (3, .int (nI (ρ 1))), (4, .int (nI (ρ 2))), (5, .int (nI 1)), (6, .int (nI 0))] ⟨rfl, rfl, rfl, rfl, rfl, rfl, trivial⟩ ?_
  refine x_room (k := 30 * ρ 1 + 260) (n := 200 * ρ 1 + 1540) (by omega) (by omega) ?_
  refine err_3 hN hO hX hT hk (ρ 1) 0 _ rfl h (fun C1 h => ?_)
  refine x_iconst (v := nI 0) dL_errors_660 (by decide) ?_
  refine x_istore dL_errors_661 (by decide) ?_
  refine x_ls [(0, .ref x), (1, .long (nowV ρ)), (3, .int (nI (ρ 1))), (4, .int (nI (ρ 2))), (5, .int (nI 1)), (6, .int (nI 0))] ⟨rfl, rfl, rfl, rfl, rfl, rfl, trivial⟩ ?_
  refine x_room (k := 2 * ρ 2 + 240) (n := 12 * ρ 2 + 1440) (by omega) (by omega) ?_
  refine err_4 hN hO hX hT hk (ρ 2) 0 C1 rfl h (fun C2 h => ?_)
  exact err_5 hN hO hX hT h hq

theorem err_1 {G : GT} {C : AH} {Q : QT} {C0 : AH} {sa va : Nat → Nat} {x T n : Nat} {S : Nat → Nat} {ρ : Rw} {L : List Rw} {K : Nat → Option Rw} (hN : GN G) (hO : GO G) (hX : GX G sa va) (hT : T ≤ 40000) (h : RF T C0 C x (S, n, ρ, L, K)) (hq : ∀ C' : AH, RF T C0 C' x (S, n, ρ, L, K) → Q (some (.int 1)) C') : Ex G M_L_errors Q NX (550) (3360) 281 [(0, .ref x), (1, .long (nowV ρ)), (3, .int (nI (ρ 1))), (4, .int (nI (ρ 2)))] [] C := by
  have hk : Ok T ρ := h.1.1.1
  obtain ⟨hW, hB⟩ := id hk
  obtain ⟨w1, w2, w7, w8, w9, w10, w11, w11', w12, wB, wP⟩ := id hW
  by_cases hl : ρ 1 < 8
  · skip
    refine x_iload_n dL_errors_281 rfl ?_
    refine x_bipush (v := nI 8) dL_errors_282 (by decide) ?_
    refine x_icmp_ltT (tgt := 305) dL_errors_284 (by decide) (nI_lt hl (by decide)) ?_
    refine x_ls [(0, .ref x), (1, .long (nowV ρ)), (3, .int (nI (ρ 1))), (4, .int (nI (ρ 2)))] ⟨rfl, rfl, rfl, rfl, trivial⟩ ?_
    refine x_room (k := 540) (n := 3300) (by omega) (by omega) ?_
    exact err_2 hN hO hX hT h hq
  · have h8 : ρ 1 = 8 := by omega
    refine x_iload_n dL_errors_281 rfl ?_
    refine x_bipush (v := nI 8) dL_errors_282 (by decide) ?_
    refine x_icmp_ltN (tgt := 305) dL_errors_284 (by decide) (nI_nlt (by omega) (by omega)) ?_
    refine x_aload_n dL_errors_287 rfl ?_
    refine x_bipush (v := nI 50) dL_errors_288 (by decide) ?_
    refine x_bipush (v := nI 50) dL_errors_290 (by decide) ?_
    refine x_iconst (v := nI 1) dL_errors_292 (by decide) ?_
    refine x_iconst (v := nI 0) dL_errors_293 (by decide) ?_
    refine x_iconst (v := nI 1) dL_errors_294 (by decide) ?_
    refine x_cX (c9 := 2) (s9 := 12) (As := [_, _, _, _, _, _]) hO dL_errors_295 o_L_addBus s_L_addBus l_L_121 ⟨by decide, by decide⟩ ⟨rfl, rfl⟩ ⟨by omega, by omega⟩ rfl rfl (Nat.le_of_ble_eq_true rfl) (z_addBus hN hO hX hT h (aAddBus_2 (by decide +kernel) h8) (lw_2 rfl) (fun C1 h => ?_))
    dsimp only [Option.toList, List.cons_append, List.nil_append]
    refine x_ldc2 hO.1 dL_errors_298 k_L_21 ?_
    refine x_lc_neN (tgt := 496) dL_errors_301 dL_errors_302 (by decide) rfl ?_
    refine x_ls [(0, .ref x), (1, .long (nowV ρ)), (3, .int (nI (ρ 1))), (4, .int (nI (ρ 2)))] ⟨rfl, rfl, rfl, rfl, trivial⟩ ?_
    refine x_room (k := 540) (n := 3300) (by omega) (by omega) ?_
    exact err_2 hN hO hX hT h hq

theorem err_0 {G : GT} {C : AH} {Q : QT} {C0 : AH} {sa va : Nat → Nat} {x T n : Nat} {S : Nat → Nat} {ρ : Rw} {L : List Rw} {K : Nat → Option Rw} (hN : GN G) (hO : GO G) (hX : GX G sa va) (hT : T ≤ 40000) (h : RF T C0 C x (S, n, ρ, L, K)) (hq : ∀ C' : AH, RF T C0 C' x (S, n, ρ, L, K) → Q (some (.int 1)) C') : Ex G M_L_errors Q NX (560) (3420) 248 [(0, .ref x), (1, .long (nowV ρ)), (3, .int (nI (ρ 1))), (4, .int (nI (ρ 2)))] [] C := by
  have hk : Ok T ρ := h.1.1.1
  obtain ⟨hW, hB⟩ := id hk
  obtain ⟨w1, w2, w7, w8, w9, w10, w11, w11', w12, wB, wP⟩ := id hW
  by_cases hl : ρ 2 < 5
  · skip
    refine x_iload dL_errors_248 rfl ?_
    refine x_iconst (v := nI 5) dL_errors_250 (by decide) ?_
    refine x_icmp_ltT (tgt := 281) dL_errors_251 (by decide) (nI_lt hl (by decide)) ?_
    refine x_ls [(0, .ref x), (1, .long (nowV ρ)), (3, .int (nI (ρ 1))), (4, .int (nI (ρ 2)))] ⟨rfl, rfl, rfl, rfl, trivial⟩ ?_
    refine x_room (k := 550) (n := 3360) (by omega) (by omega) ?_
    exact err_1 hN hO hX hT h hq
  · have h5 : ρ 2 = 5 := by omega
    refine x_iload dL_errors_248 rfl ?_
    refine x_iconst (v := nI 5) dL_errors_250 (by decide) ?_
    refine x_icmp_ltN (tgt := 281) dL_errors_251 (by decide) (nI_nlt (by omega) (by omega)) ?_
    refine x_aload_n dL_errors_254 rfl ?_
    refine x_bipush (v := nI 9) dL_errors_255 (by decide) ?_
    refine x_cX (c9 := 2) (s9 := 12) (As := [_, _]) hO dL_errors_257 o_L_addCharger s_L_addCharger l_L_124 ⟨by decide, by decide⟩ ⟨rfl, rfl⟩ ⟨by omega, by omega⟩ rfl rfl (Nat.le_of_ble_eq_true rfl) (z_addCharger hN hO hX hT h (aAddC_2 (by decide +kernel) h5) (lw_2 rfl) (fun C1 h => ?_))
    dsimp only [Option.toList, List.cons_append, List.nil_append]
    refine x_ldc2 hO.1 dL_errors_260 k_L_21 ?_
    refine x_lc_neN (tgt := 496) dL_errors_263 dL_errors_264 (by decide) rfl ?_
    refine x_aload_n dL_errors_267 rfl ?_
    refine x_bipush (v := nI 9) dL_errors_268 (by decide) ?_
    refine x_iconst (v := nI 5) dL_errors_270 (by decide) ?_
    refine x_cX (c9 := 3) (s9 := 18) (As := [_, _, _]) hO dL_errors_271 o_L_ifPlugged s_L_ifPlugged l_L_126 ⟨by decide, by decide⟩ ⟨rfl, rfl⟩ ⟨by omega, by omega⟩ rfl rfl (Nat.le_of_ble_eq_true rfl) (q_ifPlugged hN hO hX hT h (fun C1 h => ?_))
    dsimp only [Option.toList, List.cons_append, List.nil_append]
    refine x_ldc2 hO.1 dL_errors_274 k_L_21 ?_
    refine x_lc_neN (tgt := 496) dL_errors_277 dL_errors_278 (by decide) (vIf_5 (by decide +kernel) (by decide +kernel) h5) ?_
    refine x_ls [(0, .ref x), (1, .long (nowV ρ)), (3, .int (nI (ρ 1))), (4, .int (nI (ρ 2)))] ⟨rfl, rfl, rfl, rfl, trivial⟩ ?_
    refine x_room (k := 550) (n := 3360) (by omega) (by omega) ?_
    exact err_1 hN hO hX hT h hq

theorem m_errors {G : GT} {C : AH} {Q : QT} {C0 : AH} {sa va : Nat → Nat} {x T n : Nat} {S : Nat → Nat} {ρ : Rw} {L : List Rw} {K : Nat → Option Rw} (hN : GN G) (hO : GO G) (hX : GX G sa va) (hT : T ≤ 40000) (h : RF T C0 C x (S, n, ρ, L, K)) (hq : ∀ C' : AH, RF T C0 C' x (S, n, ρ, L, K) → Q (some (.int 1)) C') : Mt G M_L_errors [.ref x] C Q NX := by
  refine Mt_of (by decide) (Nat.le_of_ble_eq_true rfl) ?_
  have hk : Ok T ρ := h.1.1.1
  obtain ⟨hW, hB⟩ := id hk
  obtain ⟨w1, w2, w7, w8, w9, w10, w11, w11', w12, wB, wP⟩ := id hW
  refine x_room (k := 1000) (n := 6400) (by decide) (by decide) ?_
  refine x_aload_n dL_errors_0 rfl ?_
  refine x_cS (c9 := 220) (s9 := 1320) (As := [_]) hO dL_errors_1 o_L_now s_L_now l_L_115 ⟨by decide, by decide⟩ ⟨rfl, rfl⟩ ⟨by omega, by omega⟩ rfl rfl (Nat.le_of_ble_eq_true rfl) (m_now hN hO hX hT h (fun C1 h => ?_))
  dsimp only [Option.toList, List.cons_append, List.nil_append]
  refine x_lstore_n dL_errors_4 (by decide) ?_
  refine x_aload_n dL_errors_5 rfl ?_
  refine x_iconst (v := nI 0) dL_errors_6 (by decide) ?_
  refine x_cX (c9 := 1) (s9 := 6) (As := [_, _]) hO dL_errors_7 o_L_about s_L_about l_L_103 ⟨by decide, by decide⟩ ⟨rfl, rfl⟩ ⟨by omega, by omega⟩ rfl rfl (Nat.le_of_ble_eq_true rfl) (q_about hN hO hX hT h (fun C1 h => ?_))
  dsimp only [Option.toList, List.cons_append, List.nil_append]
  rw [vAb_N hk (by omega) (show 0 ≤ 10 by decide), show abN ρ 0 = ρ 1 from rfl]
  refine x_l2i dL_errors_10 ?_
  rw [lN_i]
  refine x_istore_n dL_errors_11 (by decide) ?_
  refine x_aload_n dL_errors_12 rfl ?_
  refine x_iconst (v := nI 1) dL_errors_13 (by decide) ?_
  refine x_cX (c9 := 1) (s9 := 6) (As := [_, _]) hO dL_errors_14 o_L_about s_L_about l_L_103 ⟨by decide, by decide⟩ ⟨rfl, rfl⟩ ⟨by omega, by omega⟩ rfl rfl (Nat.le_of_ble_eq_true rfl) (q_about hN hO hX hT h (fun C1 h => ?_))
  dsimp only [Option.toList, List.cons_append, List.nil_append]
  rw [vAb_N hk (by omega) (show 1 ≤ 10 by decide), show abN ρ 1 = ρ 2 from rfl]
  refine x_l2i dL_errors_17 ?_
  rw [lN_i]
  refine x_istore dL_errors_18 (by decide) ?_
  refine x_aload_n dL_errors_20 rfl ?_
  refine x_iconst (v := (-1)) dL_errors_21 (by decide) ?_
  refine x_cX (c9 := 1) (s9 := 6) (As := [_, _]) hO dL_errors_22 o_L_about s_L_about l_L_103 ⟨by decide, by decide⟩ ⟨rfl, rfl⟩ ⟨by omega, by omega⟩ rfl rfl (Nat.le_of_ble_eq_true rfl) (q_about hN hO hX hT h (fun C1 h => ?_))
  dsimp only [Option.toList, List.cons_append, List.nil_append]
  refine x_ldc2 hO.1 dL_errors_25 k_L_17 ?_
  refine x_lc_neN (tgt := 496) dL_errors_28 dL_errors_29 (by decide) (if_neg (by decide +kernel)) ?_
  refine x_aload_n dL_errors_32 rfl ?_
  refine x_bipush (v := nI 11) dL_errors_33 (by decide) ?_
  refine x_cX (c9 := 1) (s9 := 6) (As := [_, _]) hO dL_errors_35 o_L_about s_L_about l_L_103 ⟨by decide, by decide⟩ ⟨rfl, rfl⟩ ⟨by omega, by omega⟩ rfl rfl (Nat.le_of_ble_eq_true rfl) (q_about hN hO hX hT h (fun C1 h => ?_))
  dsimp only [Option.toList, List.cons_append, List.nil_append]
  refine x_ldc2 hO.1 dL_errors_38 k_L_17 ?_
  refine x_lc_neN (tgt := 496) dL_errors_41 dL_errors_42 (by decide) (if_neg (by decide +kernel)) ?_
  refine x_aload_n dL_errors_45 rfl ?_
  refine x_iload_n dL_errors_46 rfl ?_
  refine x_bipush (v := nI 10) dL_errors_47 (by decide) ?_
  refine x_cX (c9 := 2) (s9 := 12) (As := [_, _, _]) hO dL_errors_49 o_L_bus s_L_bus l_L_110 ⟨by decide, by decide⟩ ⟨rfl, rfl⟩ ⟨by omega, by omega⟩ rfl rfl (Nat.le_of_ble_eq_true rfl) (q_bus hN hO hX hT h (fun C1 h => ?_))
  dsimp only [Option.toList, List.cons_append, List.nil_append]
  refine x_ldc2 hO.1 dL_errors_52 k_L_36 ?_
  refine x_lc_neN (tgt := 496) dL_errors_55 dL_errors_56 (by decide) (vBu_out w1 (by omega) (Nat.le_refl _)) ?_
  refine x_aload_n dL_errors_59 rfl ?_
  refine x_iconst (v := (-1)) dL_errors_60 (by decide) ?_
  refine x_iconst (v := nI 0) dL_errors_61 (by decide) ?_
  refine x_cX (c9 := 2) (s9 := 12) (As := [_, _, _]) hO dL_errors_62 o_L_bus s_L_bus l_L_110 ⟨by decide, by decide⟩ ⟨rfl, rfl⟩ ⟨by omega, by omega⟩ rfl rfl (Nat.le_of_ble_eq_true rfl) (q_bus hN hO hX hT h (fun C1 h => ?_))
  dsimp only [Option.toList, List.cons_append, List.nil_append]
  refine x_ldc2 hO.1 dL_errors_65 k_L_36 ?_
  refine x_lc_neN (tgt := 496) dL_errors_68 dL_errors_69 (by decide) vBu_neg ?_
  refine x_aload_n dL_errors_72 rfl ?_
  refine x_iload dL_errors_73 rfl ?_
  refine x_bipush (v := nI 9) dL_errors_75 (by decide) ?_
  refine x_cX (c9 := 2) (s9 := 12) (As := [_, _, _]) hO dL_errors_77 o_L_charger s_L_charger l_L_113 ⟨by decide, by decide⟩ ⟨rfl, rfl⟩ ⟨by omega, by omega⟩ rfl rfl (Nat.le_of_ble_eq_true rfl) (q_charger hN hO hX hT h (fun C1 h => ?_))
  dsimp only [Option.toList, List.cons_append, List.nil_append]
  refine x_ldc2 hO.1 dL_errors_80 k_L_36 ?_
  refine x_lc_neN (tgt := 496) dL_errors_83 dL_errors_84 (by decide) (vCh_out w2 (by omega) (Nat.le_refl _)) ?_
  refine x_aload_n dL_errors_87 rfl ?_
  refine x_iload_n dL_errors_88 rfl ?_
  refine x_iconst (v := (-1)) dL_errors_89 (by decide) ?_
  refine x_cX (c9 := 4) (s9 := 32) (As := [_, _, _]) hO dL_errors_90 o_L_sign s_L_sign l_L_119 ⟨by decide, by decide⟩ ⟨rfl, rfl⟩ ⟨by omega, by omega⟩ rfl rfl (Nat.le_of_ble_eq_true rfl) (q_sign hN hO hX hT h (fun C1 h => ?_))
  dsimp only [Option.toList, List.cons_append, List.nil_append]
  refine x_ldc2 hO.1 dL_errors_93 k_L_36 ?_
  refine x_lc_neN (tgt := 496) dL_errors_96 dL_errors_97 (by decide) (vSi_out w1 (by omega) (Nat.le_refl _)) ?_
  refine x_aload_n dL_errors_100 rfl ?_
  refine x_bipush (v := nI 6) dL_errors_101 (by decide) ?_
  refine x_cX (c9 := 1) (s9 := 6) (As := [_, _]) hO dL_errors_103 o_L_setting s_L_setting l_L_108 ⟨by decide, by decide⟩ ⟨rfl, rfl⟩ ⟨by omega, by omega⟩ rfl rfl (Nat.le_of_ble_eq_true rfl) (q_setting hN hO hX hT h (fun C1 h => ?_))
  dsimp only [Option.toList, List.cons_append, List.nil_append]
  refine x_ldc2 hO.1 dL_errors_106 k_L_17 ?_
  refine x_lc_neN (tgt := 496) dL_errors_109 dL_errors_110 (by decide) (if_neg (by decide +kernel)) ?_
  refine x_aload_n dL_errors_113 rfl ?_
  refine x_bipush (v := nI 9) dL_errors_114 (by decide) ?_
  refine x_iconst (v := nI 0) dL_errors_116 (by decide) ?_
  refine x_iconst (v := nI 1) dL_errors_117 (by decide) ?_
  refine x_iconst (v := nI 0) dL_errors_118 (by decide) ?_
  refine x_iconst (v := nI 1) dL_errors_119 (by decide) ?_
  refine x_cX (c9 := 2) (s9 := 12) (As := [_, _, _, _, _, _]) hO dL_errors_120 o_L_addBus s_L_addBus l_L_121 ⟨by decide, by decide⟩ ⟨rfl, rfl⟩ ⟨by omega, by omega⟩ rfl rfl (Nat.le_of_ble_eq_true rfl) (z_addBus hN hO hX hT h (if_neg (by decide +kernel)) (lw_1 rfl) (fun C1 h => ?_))
  dsimp only [Option.toList, List.cons_append, List.nil_append]
  refine x_ldc2 hO.1 dL_errors_123 k_L_17 ?_
  refine x_lc_neN (tgt := 496) dL_errors_126 dL_errors_127 (by decide) rfl ?_
  refine x_aload_n dL_errors_130 rfl ?_
  refine x_sipush (v := nI 401) dL_errors_131 (by decide) ?_
  refine x_iconst (v := nI 0) dL_errors_134 (by decide) ?_
  refine x_iconst (v := nI 1) dL_errors_135 (by decide) ?_
  refine x_iconst (v := nI 0) dL_errors_136 (by decide) ?_
  refine x_iconst (v := nI 1) dL_errors_137 (by decide) ?_
  refine x_cX (c9 := 2) (s9 := 12) (As := [_, _, _, _, _, _]) hO dL_errors_138 o_L_addBus s_L_addBus l_L_121 ⟨by decide, by decide⟩ ⟨rfl, rfl⟩ ⟨by omega, by omega⟩ rfl rfl (Nat.le_of_ble_eq_true rfl) (z_addBus hN hO hX hT h (if_neg (by decide +kernel)) (lw_1 rfl) (fun C1 h => ?_))
  dsimp only [Option.toList, List.cons_append, List.nil_append]
  refine x_ldc2 hO.1 dL_errors_141 k_L_17 ?_
  refine x_lc_neN (tgt := 496) dL_errors_144 dL_errors_145 (by decide) rfl ?_
  refine x_aload_n dL_errors_148 rfl ?_
  refine x_bipush (v := nI 50) dL_errors_149 (by decide) ?_
  refine x_bipush (v := nI 51) dL_errors_151 (by decide) ?_
  refine x_iconst (v := nI 1) dL_errors_153 (by decide) ?_
  refine x_iconst (v := nI 0) dL_errors_154 (by decide) ?_
  refine x_iconst (v := nI 1) dL_errors_155 (by decide) ?_
  refine x_cX (c9 := 2) (s9 := 12) (As := [_, _, _, _, _, _]) hO dL_errors_156 o_L_addBus s_L_addBus l_L_121 ⟨by decide, by decide⟩ ⟨rfl, rfl⟩ ⟨by omega, by omega⟩ rfl rfl (Nat.le_of_ble_eq_true rfl) (z_addBus hN hO hX hT h (if_neg (by decide +kernel)) (lw_1 rfl) (fun C1 h => ?_))
  dsimp only [Option.toList, List.cons_append, List.nil_append]
  refine x_ldc2 hO.1 dL_errors_159 k_L_17 ?_
  refine x_lc_neN (tgt := 496) dL_errors_162 dL_errors_163 (by decide) rfl ?_
  refine x_aload_n dL_errors_166 rfl ?_
  refine x_bipush (v := nI 50) dL_errors_167 (by decide) ?_
  refine x_bipush (v := nI 50) dL_errors_169 (by decide) ?_
  refine x_iconst (v := nI 0) dL_errors_171 (by decide) ?_
  refine x_iconst (v := nI 0) dL_errors_172 (by decide) ?_
  refine x_iconst (v := nI 1) dL_errors_173 (by decide) ?_
  refine x_cX (c9 := 2) (s9 := 12) (As := [_, _, _, _, _, _]) hO dL_errors_174 o_L_addBus s_L_addBus l_L_121 ⟨by decide, by decide⟩ ⟨rfl, rfl⟩ ⟨by omega, by omega⟩ rfl rfl (Nat.le_of_ble_eq_true rfl) (z_addBus hN hO hX hT h (if_neg (by decide +kernel)) (lw_1 rfl) (fun C1 h => ?_))
  dsimp only [Option.toList, List.cons_append, List.nil_append]
  refine x_ldc2 hO.1 dL_errors_177 k_L_17 ?_
  refine x_lc_neN (tgt := 496) dL_errors_180 dL_errors_181 (by decide) rfl ?_
  refine x_aload_n dL_errors_184 rfl ?_
  refine x_bipush (v := nI 50) dL_errors_185 (by decide) ?_
  refine x_bipush (v := nI 50) dL_errors_187 (by decide) ?_
  refine x_iconst (v := nI 1) dL_errors_189 (by decide) ?_
  refine x_bipush (v := nI 24) dL_errors_190 (by decide) ?_
  refine x_iconst (v := nI 1) dL_errors_192 (by decide) ?_
  refine x_cX (c9 := 2) (s9 := 12) (As := [_, _, _, _, _, _]) hO dL_errors_193 o_L_addBus s_L_addBus l_L_121 ⟨by decide, by decide⟩ ⟨rfl, rfl⟩ ⟨by omega, by omega⟩ rfl rfl (Nat.le_of_ble_eq_true rfl) (z_addBus hN hO hX hT h (if_neg (by decide +kernel)) (lw_1 rfl) (fun C1 h => ?_))
  dsimp only [Option.toList, List.cons_append, List.nil_append]
  refine x_ldc2 hO.1 dL_errors_196 k_L_17 ?_
  refine x_lc_neN (tgt := 496) dL_errors_199 dL_errors_200 (by decide) rfl ?_
  refine x_aload_n dL_errors_203 rfl ?_
  refine x_bipush (v := nI 50) dL_errors_204 (by decide) ?_
  refine x_bipush (v := nI 50) dL_errors_206 (by decide) ?_
  refine x_iconst (v := nI 1) dL_errors_208 (by decide) ?_
  refine x_bipush (v := nI 7) dL_errors_209 (by decide) ?_
  refine x_bipush (v := nI 7) dL_errors_211 (by decide) ?_
  refine x_cX (c9 := 2) (s9 := 12) (As := [_, _, _, _, _, _]) hO dL_errors_213 o_L_addBus s_L_addBus l_L_121 ⟨by decide, by decide⟩ ⟨rfl, rfl⟩ ⟨by omega, by omega⟩ rfl rfl (Nat.le_of_ble_eq_true rfl) (z_addBus hN hO hX hT h (if_neg (by decide +kernel)) (lw_1 rfl) (fun C1 h => ?_))
  dsimp only [Option.toList, List.cons_append, List.nil_append]
  refine x_ldc2 hO.1 dL_errors_216 k_L_17 ?_
  refine x_lc_neN (tgt := 496) dL_errors_219 dL_errors_220 (by decide) rfl ?_
  refine x_aload_n dL_errors_223 rfl ?_
  refine x_iconst (v := nI 0) dL_errors_224 (by decide) ?_
  refine x_cX (c9 := 2) (s9 := 12) (As := [_, _]) hO dL_errors_225 o_L_addCharger s_L_addCharger l_L_124 ⟨by decide, by decide⟩ ⟨rfl, rfl⟩ ⟨by omega, by omega⟩ rfl rfl (Nat.le_of_ble_eq_true rfl) (z_addCharger hN hO hX hT h (if_neg (by decide +kernel)) (lw_1 rfl) (fun C1 h => ?_))
  dsimp only [Option.toList, List.cons_append, List.nil_append]
  refine x_ldc2 hO.1 dL_errors_228 k_L_17 ?_
  refine x_lc_neN (tgt := 496) dL_errors_231 dL_errors_232 (by decide) rfl ?_
  refine x_aload_n dL_errors_235 rfl ?_
  refine x_bipush (v := nI 51) dL_errors_236 (by decide) ?_
  refine x_cX (c9 := 2) (s9 := 12) (As := [_, _]) hO dL_errors_238 o_L_addCharger s_L_addCharger l_L_124 ⟨by decide, by decide⟩ ⟨rfl, rfl⟩ ⟨by omega, by omega⟩ rfl rfl (Nat.le_of_ble_eq_true rfl) (z_addCharger hN hO hX hT h (if_neg (by decide +kernel)) (lw_1 rfl) (fun C1 h => ?_))
  dsimp only [Option.toList, List.cons_append, List.nil_append]
  refine x_ldc2 hO.1 dL_errors_241 k_L_17 ?_
  refine x_lc_neN (tgt := 496) dL_errors_244 dL_errors_245 (by decide) rfl ?_
  refine x_ls [(0, .ref x), (1, .long (nowV ρ)), (3, .int (nI (ρ 1))), (4, .int (nI (ρ 2)))] ⟨rfl, rfl, rfl, rfl, trivial⟩ ?_
  refine x_room (k := 560) (n := 3420) (by decide) (by decide) ?_
  exact err_0 hN hO hX hT h hq

