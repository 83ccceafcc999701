/-! the law: all that is told, as one number -/
def nwF (f : Nat → Int64) : Nat → Nat → Int64 → Int64
  | 0, _, v => v
  | m + 1, i, v => nwF f m (i + 1) (31 * v + f i)
def nowV (ρ : Rw) : Int64 := nwF (fun k => vCh ρ (nI (k / 3)) (nI (k % 3))) (3 * ρ 2) 0 (nwF (fun k => vBu ρ (nI (k / 10)) (nI (k % 10))) (10 * ρ 1) 0 (nwF (fun k => vSt ρ (nI k)) 6 0 (nwF (fun k => vAb ρ (nI k)) 11 0 167)))
theorem now_1 {G : GT} {Q : QT} {C0 : AH} {sa va : Nat → Nat} {x T n : Nat} {S : Nat → Nat} {ρ : Rw} {L : List Rw} {K : Nat → Option Rw} {k0 n0 : Nat} (hN : GN G) (hO : GO G) (hX : GX G sa va) (hT : T ≤ 40000) : ∀ (m i : Nat) (v : Int64) (C : AH), m + i = 11 → RF T C0 C x (S, n, ρ, L, K) → (∀ C' : AH, RF T C0 C' x (S, n, ρ, L, K) → Ex G M_L_now Q NX (k0) (n0) 30 [(0, .ref x), (1, .long (nwF (fun i => vAb ρ (nI i)) m i v))] [] C') → Ex G M_L_now Q NX (1 * m + k0) (6 * m + n0) 6 [(0, .ref x), (1, .long (v)), (3, .int (nI (i)))] [] C := by
  intro m
  induction m with
  | zero =>
    intro i v C hi h kk
    refine x_iload_n dL_now_6 rfl ?_
    refine x_bipush (v := nI 11) dL_now_7 (by decide) ?_
    refine x_icmp_geT (tgt := 30) dL_now_9 (by decide) (nI_le (by omega) (by omega)) ?_
    refine x_ls [(0, .ref x), (1, .long (v))] ⟨rfl, rfl, trivial⟩ ?_
    refine x_room (k := k0) (n := n0) (by omega) (by omega) ?_
    exact kk C h
  | succ m ih =>
    intro i v C hi h kk
    refine x_iload_n dL_now_6 rfl ?_
    refine x_bipush (v := nI 11) dL_now_7 (by decide) ?_
    refine x_icmp_geN (tgt := 30) dL_now_9 (by decide) (nI_ge (by omega) (by omega)) ?_
    refine x_ldc2 hO.1 dL_now_12 k_L_101 ?_
    refine x_lload_n dL_now_15 rfl ?_
    refine x_lmul dL_now_16 ?_
    refine x_aload_n dL_now_17 rfl ?_
    refine x_iload_n dL_now_18 rfl ?_
    refine x_cX (c9 := 1) (s9 := 6) (As := [_, _]) hO dL_now_19 o_L_about s_L_about l_L_103 ⟨by decide, by decide⟩ ⟨rfl, rfl⟩ ⟨by omega, by omega⟩ rfl rfl (Nat.le_of_ble_eq_true rfl) (q_about hN hO hX hT h (fun C1 h => ?_))
    dsimp only [Option.toList, List.cons_append, List.nil_append]
    refine x_ladd dL_now_22 ?_
    refine x_lstore_n dL_now_23 (by decide) ?_
    refine x_iinc (v := nI 1) dL_now_24 rfl (by decide) (by decide) ?_
    refine x_goto (tgt := 6) dL_now_27 (by decide) ?_
    refine x_ls [(0, .ref x), (1, .long (31 * v + vAb ρ (nI i))), (3, .int (nI (i + 1)))] ⟨rfl, rfl, (by rw [← nI_add]; rfl), trivial⟩ ?_
    refine x_room (k := 1 * m + k0) (n := 6 * m + n0) (by omega) (by omega) ?_
    exact ih (i + 1) (31 * v + vAb ρ (nI i)) C1 (by omega) h kk

theorem now_2 {G : GT} {Q : QT} {C0 : AH} {sa va : Nat → Nat} {x T n : Nat} {S : Nat → Nat} {ρ : Rw} {L : List Rw} {K : Nat → Option Rw} {k0 n0 : Nat} (hN : GN G) (hO : GO G) (hX : GX G sa va) (hT : T ≤ 40000) : ∀ (m i : Nat) (v : Int64) (C : AH), m + i = 6 → RF T C0 C x (S, n, ρ, L, K) → (∀ C' : AH, RF T C0 C' x (S, n, ρ, L, K) → Ex G M_L_now Q NX (k0) (n0) 56 [(0, .ref x), (1, .long (nwF (fun i => vSt ρ (nI i)) m i v))] [] C') → Ex G M_L_now Q NX (1 * m + k0) (6 * m + n0) 32 [(0, .ref x), (1, .long (v)), (3, .int (nI (i)))] [] C := by
  intro m
  induction m with
  | zero =>
    intro i v C hi h kk
    refine x_iload_n dL_now_32 rfl ?_
    refine x_bipush (v := nI 6) dL_now_33 (by decide) ?_
    refine x_icmp_geT (tgt := 56) dL_now_35 (by decide) (nI_le (by omega) (by omega)) ?_
    refine x_ls [(0, .ref x), (1, .long (v))] ⟨rfl, rfl, trivial⟩ ?_
    refine x_room (k := k0) (n := n0) (by omega) (by omega) ?_
    exact kk C h
  | succ m ih =>
    intro i v C hi h kk
    refine x_iload_n dL_now_32 rfl ?_
    refine x_bipush (v := nI 6) dL_now_33 (by decide) ?_
    refine x_icmp_geN (tgt := 56) dL_now_35 (by decide) (nI_ge (by omega) (by omega)) ?_
    refine x_ldc2 hO.1 dL_now_38 k_L_101 ?_
    refine x_lload_n dL_now_41 rfl ?_
    refine x_lmul dL_now_42 ?_
    refine x_aload_n dL_now_43 rfl ?_
    refine x_iload_n dL_now_44 rfl ?_
    refine x_cX (c9 := 1) (s9 := 6) (As := [_, _]) hO dL_now_45 o_L_setting s_L_setting l_L_108 ⟨by decide, by decide⟩ ⟨rfl, rfl⟩ ⟨by omega, by omega⟩ rfl rfl (Nat.le_of_ble_eq_true rfl) (q_setting hN hO hX hT h (fun C1 h => ?_))
    dsimp only [Option.toList, List.cons_append, List.nil_append]
    refine x_ladd dL_now_48 ?_
    refine x_lstore_n dL_now_49 (by decide) ?_
    refine x_iinc (v := nI 1) dL_now_50 rfl (by decide) (by decide) ?_
    refine x_goto (tgt := 32) dL_now_53 (by decide) ?_
    refine x_ls [(0, .ref x), (1, .long (31 * v + vSt ρ (nI i))), (3, .int (nI (i + 1)))] ⟨rfl, rfl, (by rw [← nI_add]; rfl), trivial⟩ ?_
    refine x_room (k := 1 * m + k0) (n := 6 * m + n0) (by omega) (by omega) ?_
    exact ih (i + 1) (31 * v + vSt ρ (nI i)) C1 (by omega) h kk

theorem now_3 {G : GT} {Q : QT} {C0 : AH} {sa va : Nat → Nat} {x T n : Nat} {S : Nat → Nat} {ρ : Rw} {L : List Rw} {K : Nat → Option Rw} {k0 n0 : Nat} (hN : GN G) (hO : GO G) (hX : GX G sa va) (hT : T ≤ 40000) (h8 : ρ 1 ≤ 8) : ∀ (m i : Nat) (v : Int64) (C : AH), m + i = 10 * ρ 1 → RF T C0 C x (S, n, ρ, L, K) → (∀ C' : AH, RF T C0 C' x (S, n, ρ, L, K) → Ex G M_L_now Q NX (k0) (n0) 102 [(0, .ref x), (1, .long (nwF (fun i => vBu ρ (nI (i / 10)) (nI (i % 10))) m i v)), (3, .int (nI (ρ 1)))] [] C') → Ex G M_L_now Q NX (2 * m + k0) (12 * m + n0) 66 [(0, .ref x), (1, .long (v)), (3, .int (nI (ρ 1))), (4, .int (nI (i)))] [] C := by
  intro m
  induction m with
  | zero =>
    intro i v C hi h kk
    refine x_iload dL_now_66 rfl ?_
    refine x_bipush (v := nI 10) dL_now_68 (by decide) ?_
    refine x_iload_n dL_now_70 rfl ?_
    refine x_imul dL_now_71 ?_
    rw [pk_mul]
    refine x_icmp_geT (tgt := 102) dL_now_72 (by decide) (nI_le (by omega) (by omega)) ?_
    refine x_ls [(0, .ref x), (1, .long (v)), (3, .int (nI (ρ 1)))] ⟨rfl, rfl, rfl, trivial⟩ ?_
    refine x_room (k := k0) (n := n0) (by omega) (by omega) ?_
    exact kk C h
  | succ m ih =>
    intro i v C hi h kk
    refine x_iload dL_now_66 rfl ?_
    refine x_bipush (v := nI 10) dL_now_68 (by decide) ?_
    refine x_iload_n dL_now_70 rfl ?_
    refine x_imul dL_now_71 ?_
    rw [pk_mul]
    refine x_icmp_geN (tgt := 102) dL_now_72 (by decide) (nI_ge (by omega) (by omega)) ?_
    refine x_ldc2 hO.1 dL_now_75 k_L_101 ?_
    refine x_lload_n dL_now_78 rfl ?_
    refine x_lmul dL_now_79 ?_
    refine x_aload_n dL_now_80 rfl ?_
    refine x_iload dL_now_81 rfl ?_
    refine x_bipush (v := nI 10) dL_now_83 (by decide) ?_
    refine x_idiv dL_now_85 (by decide) ?_
    rw [pk_div (by omega) (by decide) (by decide)]
    refine x_iload dL_now_86 rfl ?_
    refine x_bipush (v := nI 10) dL_now_88 (by decide) ?_
    refine x_irem dL_now_90 (by decide) ?_
    rw [pk_rem (by omega) (by decide) (by decide)]
    refine x_cX (c9 := 2) (s9 := 12) (As := [_, _, _]) hO dL_now_91 o_L_bus s_L_bus l_L_110 ⟨by decide, by decide⟩ ⟨rfl, rfl⟩ ⟨by omega, by omega⟩ rfl rfl (Nat.le_of_ble_eq_true rfl) (q_bus hN hO hX hT h (fun C1 h => ?_))
    dsimp only [Option.toList, List.cons_append, List.nil_append]
    refine x_ladd dL_now_94 ?_
    refine x_lstore_n dL_now_95 (by decide) ?_
    refine x_iinc (v := nI 1) dL_now_96 rfl (by decide) (by decide) ?_
    refine x_goto (tgt := 66) dL_now_99 (by decide) ?_
    refine x_ls [(0, .ref x), (1, .long (31 * v + vBu ρ (nI (i / 10)) (nI (i % 10)))), (3, .int (nI (ρ 1))), (4, .int (nI (i + 1)))] ⟨rfl, rfl, rfl, (by rw [← nI_add]; rfl), trivial⟩ ?_
    refine x_room (k := 2 * m + k0) (n := 12 * m + n0) (by omega) (by omega) ?_
    exact ih (i + 1) (31 * v + vBu ρ (nI (i / 10)) (nI (i % 10))) C1 (by omega) h kk

theorem now_4 {G : GT} {Q : QT} {C0 : AH} {sa va : Nat → Nat} {x T n : Nat} {S : Nat → Nat} {ρ : Rw} {L : List Rw} {K : Nat → Option Rw} {k0 n0 : Nat} (hN : GN G) (hO : GO G) (hX : GX G sa va) (hT : T ≤ 40000) (h5 : ρ 2 ≤ 5) : ∀ (m i : Nat) (v : Int64) (C : AH), m + i = 3 * ρ 2 → RF T C0 C x (S, n, ρ, L, K) → (∀ C' : AH, RF T C0 C' x (S, n, ρ, L, K) → Ex G M_L_now Q NX (k0) (n0) 147 [(0, .ref x), (1, .long (nwF (fun i => vCh ρ (nI (i / 3)) (nI (i % 3))) m i v)), (3, .int (nI (ρ 1))), (4, .int (nI (ρ 2)))] [] C') → Ex G M_L_now Q NX (2 * m + k0) (12 * m + n0) 113 [(0, .ref x), (1, .long (v)), (3, .int (nI (ρ 1))), (4, .int (nI (ρ 2))), (5, .int (nI (i)))] [] C := by
  intro m
  induction m with
  | zero =>
    intro i v C hi h kk
    refine x_iload dL_now_113 rfl ?_
    refine x_iconst (v := nI 3) dL_now_115 (by decide) ?_
    refine x_iload dL_now_116 rfl ?_
    refine x_imul dL_now_118 ?_
    rw [pk_mul]
    refine x_icmp_geT (tgt := 147) dL_now_119 (by decide) (nI_le (by omega) (by omega)) ?_
    refine x_ls [(0, .ref x), (1, .long (v)), (3, .int (nI (ρ 1))), (4, .int (nI (ρ 2)))] ⟨rfl, rfl, rfl, rfl, trivial⟩ ?_
    refine x_room (k := k0) (n := n0) (by omega) (by omega) ?_
    exact kk C h
  | succ m ih =>
    intro i v C hi h kk
    refine x_iload dL_now_113 rfl ?_
    refine x_iconst (v := nI 3) dL_now_115 (by decide) ?_
    refine x_iload dL_now_116 rfl ?_
    refine x_imul dL_now_118 ?_
    rw [pk_mul]
    refine x_icmp_geN (tgt := 147) dL_now_119 (by decide) (nI_ge (by omega) (by omega)) ?_
    refine x_ldc2 hO.1 dL_now_122 k_L_101 ?_
    refine x_lload_n dL_now_125 rfl ?_
    refine x_lmul dL_now_126 ?_
    refine x_aload_n dL_now_127 rfl ?_
    refine x_iload dL_now_128 rfl ?_
    refine x_iconst (v := nI 3) dL_now_130 (by decide) ?_
    refine x_idiv dL_now_131 (by decide) ?_
    rw [pk_div (by omega) (by decide) (by decide)]
    refine x_iload dL_now_132 rfl ?_
    refine x_iconst (v := nI 3) dL_now_134 (by decide) ?_
    refine x_irem dL_now_135 (by decide) ?_
    rw [pk_rem (by omega) (by decide) (by decide)]
    refine x_cX (c9 := 2) (s9 := 12) (As := [_, _, _]) hO dL_now_136 o_L_charger s_L_charger l_L_113 ⟨by decide, by decide⟩ ⟨rfl, rfl⟩ ⟨by omega, by omega⟩ rfl rfl (Nat.le_of_ble_eq_true rfl) (q_charger hN hO hX hT h (fun C1 h => ?_))
    dsimp only [Option.toList, List.cons_append, List.nil_append]
    refine x_ladd dL_now_139 ?_
    refine x_lstore_n dL_now_140 (by decide) ?_
    refine x_iinc (v := nI 1) dL_now_141 rfl (by decide) (by decide) ?_
    refine x_goto (tgt := 113) dL_now_144 (by decide) ?_
    refine x_ls [(0, .ref x), (1, .long (31 * v + vCh ρ (nI (i / 3)) (nI (i % 3)))), (3, .int (nI (ρ 1))), (4, .int (nI (ρ 2))), (5, .int (nI (i + 1)))] ⟨rfl, rfl, rfl, rfl, (by rw [← nI_add]; rfl), trivial⟩ ?_
    refine x_room (k := 2 * m + k0) (n := 12 * m + n0) (by omega) (by omega) ?_
    exact ih (i + 1) (31 * v + vCh ρ (nI (i / 3)) (nI (i % 3))) C1 (by omega) h kk

theorem m_now {G : GT} {C : AH} {Q : QT} {C0 : AH} {sa va : Nat → Nat} {x T n : Nat} {S : Nat → Nat} {ρ : Rw} {L : List Rw} {K : Nat → Option Rw} (hN : GN G) (hO : GO G) (hX : GX G sa va) (hT : T ≤ 40000) (h : RF T C0 C x (S, n, ρ, L, K)) (hq : ∀ C' : AH, RF T C0 C' x (S, n, ρ, L, K) → Q (some (.long (nowV ρ))) C') : Mt G M_L_now [.ref x] C Q NX := by
  refine Mt_of (by decide) (Nat.le_of_ble_eq_true rfl) ?_
  have hk : Ok T ρ := h.1.1.1
  obtain ⟨hW, hB⟩ := id hk
  obtain ⟨w1, w2, w7, w8, w9, w10, w11, w11', w12, wB, wP⟩ := id hW
  refine x_ldc2 hO.1 dL_now_0 k_L_99 ?_
  refine x_lstore_n dL_now_3 (by decide) ?_
  refine x_iconst (v := nI 0) dL_now_4 (by decide) ?_
  refine x_istore_n dL_now_5 (by decide) ?_
  refine x_ls [(0, .ref x), (1, .long 167), (3, .int (nI 0))] ⟨rfl, rfl, rfl, trivial⟩ ?_
  refine x_room (k := 1 * 11 + 200) (n := 6 * 11 + 1200) (by decide) (by decide) ?_
  refine now_1 hN hO hX hT 11 0 167 C rfl h (fun C1 h => ?_)
  refine x_iconst (v := nI 0) dL_now_30 (by decide) ?_
  refine x_istore_n dL_now_31 (by decide) ?_
  refine x_ls [(0, .ref x), (1, .long (nwF (fun i => vAb ρ (nI i)) 11 0 167)), (3, .int (nI 0))] ⟨rfl, rfl, rfl, trivial⟩ ?_
  refine x_room (k := 1 * 6 + 194) (n := 6 * 6 + 1164) (by omega) (by omega) ?_
  refine now_2 hN hO hX hT 6 0 _ C1 rfl h (fun C2 h => ?_)
  refine x_aload_n dL_now_56 rfl ?_
  refine x_iconst (v := nI 0) dL_now_57 (by decide) ?_
  refine x_cX (c9 := 1) (s9 := 6) (As := [_, _]) hO dL_now_58 o_L_about s_L_about l_L_103 ⟨by decide, by decide⟩ ⟨rfl, rfl⟩ ⟨by omega, by omega⟩ rfl rfl (Nat.le_of_ble_eq_true rfl) (q_about hN hO hX hT h (fun C3 h => ?_))
  dsimp only [Option.toList, List.cons_append, List.nil_append]
  rw [vAb_N hk (by omega) (show 0 ≤ 10 by decide), show abN ρ 0 = ρ 1 from rfl]
  refine x_l2i dL_now_61 ?_
  rw [lN_i]
  refine x_istore_n dL_now_62 (by decide) ?_
  refine x_iconst (v := nI 0) dL_now_63 (by decide) ?_
  refine x_istore dL_now_64 (by decide) ?_
  refine x_ls [(0, .ref x), (1, .long (nwF (fun i => vSt ρ (nI i)) 6 0 (nwF (fun i => vAb ρ (nI i)) 11 0 167))), (3, .int (nI (ρ 1))), (4, .int (nI 0))] ⟨rfl, rfl, rfl, rfl, trivial⟩ ?_
  refine x_room (k := 2 * (10 * ρ 1) + 33) (n := 12 * (10 * ρ 1) + 198) (by omega) (by omega) ?_
  refine now_3 hN hO hX hT w1 (10 * ρ 1) 0 _ C3 rfl h (fun C4 h => ?_)
  refine x_aload_n dL_now_102 rfl ?_
  refine x_iconst (v := nI 1) dL_now_103 (by decide) ?_
  refine x_cX (c9 := 1) (s9 := 6) (As := [_, _]) hO dL_now_104 o_L_about s_L_about l_L_103 ⟨by decide, by decide⟩ ⟨rfl, rfl⟩ ⟨by omega, by omega⟩ rfl rfl (Nat.le_of_ble_eq_true rfl) (q_about hN hO hX hT h (fun C5 h => ?_))
  dsimp only [Option.toList, List.cons_append, List.nil_append]
  rw [vAb_N hk (by omega) (show 1 ≤ 10 by decide), show abN ρ 1 = ρ 2 from rfl]
  refine x_l2i dL_now_107 ?_
  rw [lN_i]
  refine x_istore dL_now_108 (by decide) ?_
  refine x_iconst (v := nI 0) dL_now_110 (by decide) ?_
  refine x_istore dL_now_111 (by decide) ?_
  refine x_ls [(0, .ref x), (1, .long (nwF (fun i => vBu ρ (nI (i / 10)) (nI (i % 10))) (10 * ρ 1) 0 (nwF (fun i => vSt ρ (nI i)) 6 0 (nwF (fun i => vAb ρ (nI i)) 11 0 167)))), (3, .int (nI (ρ 1))), (4, .int (nI (ρ 2))), (5, .int (nI 0))] ⟨rfl, rfl, rfl, rfl, rfl, trivial⟩ ?_
  refine x_room (k := 2 * (3 * ρ 2) + 0) (n := 12 * (3 * ρ 2) + 0) (by omega) (by omega) ?_
  refine now_4 hN hO hX hT w2 (3 * ρ 2) 0 _ C5 rfl h (fun C6 h => ?_)
  refine x_lload_n dL_now_147 rfl ?_
  refine x_lret dL_now_148 rfl ?_
  exact hq C6 h

