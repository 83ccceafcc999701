/-! the law: a depot told as a text -/
theorem y_append {G : GT} {C : AH} {Q : QT} {C0 : AH} {sa va : Nat → Nat} {x T : Nat} {S : Nat → Nat} {l : List Nat} {ρ : Rw} {L : List Rw} {K : Nat → Option Rw} {c : Nat} (hN : GN G) (hO : GO G) (hX : GX G sa va) (hT : T ≤ 40000) (hl : l.length < 120) (hc : c < 256) (h : RF T C0 C x (txS S (l), (l).length, ρ, L, K)) (hq : ∀ C' : AH, RF T C0 C' x (txS S (l ++ [c]), (l ++ [c]).length, ρ, L, K) → Q (some (.long (lN (l.length + 1)))) C') : MtH G M_L_append hh_append [.ref x, .int (nI c)] C Q := by
  refine l_append hN hO hX h (fun C1 h1 => ?_)
  have e : aAppend (txS S (l), (l).length, ρ, L, K) (nI c) = (0, nI (l.length + 1), (txS S (l ++ [c]), (l ++ [c]).length, ρ, L, K)) := by
    unfold aAppend
    rw [if_pos ⟨nI_le (Nat.zero_le _) (by omega), nI_le (show c ≤ 255 by omega) (by decide)⟩, if_neg (show ¬ l.length = 120 by omega), nI_clamp (by omega)]
    rw [show (l ++ [c]).length = l.length + 1 from List.length_append, ← txS_app]
  rw [e] at h1
  exact q_eq (by rw [e]; exact (nI_l (by omega)).symm) (hq C1 h1)
theorem m_says {G : GT} {C : AH} {Q : QT} {C0 : AH} {sa va : Nat → Nat} {x T : Nat} {S : Nat → Nat} {l : List Nat} {ρ : Rw} {L : List Rw} {K : Nat → Option Rw} {c : Nat} (hN : GN G) (hO : GO G) (hX : GX G sa va) (hT : T ≤ 40000) (hl : l.length < 120) (hc : c < 256) (h : RF T C0 C x (txS S (l), (l).length, ρ, L, K)) (hq : ∀ C' : AH, RF T C0 C' x (txS S (l ++ [c]), (l ++ [c]).length, ρ, L, K) → Q (some (.int 1)) C') : Mt G M_L_says [.ref x, .int (nI c)] C Q NX := by
  refine Mt_of (by decide) (Nat.le_of_ble_eq_true rfl) ?_
  refine x_room (k := 2) (n := 12) (by decide) (by decide) ?_
  refine x_aload_n dL_says_0 rfl ?_
  refine x_iload_n dL_says_1 rfl ?_
  refine x_cX (c9 := 2) (s9 := 12) (As := [_, _]) hO dL_says_2 o_L_append s_L_append l_L_158 ⟨by decide, by decide⟩ ⟨rfl, rfl⟩ ⟨by omega, by omega⟩ rfl rfl (Nat.le_of_ble_eq_true rfl) (y_append hN hO hX hT hl hc h (fun C1 h => ?_))
  dsimp only [Option.toList, List.cons_append, List.nil_append]
  refine x_lconst (v := 0) dL_says_5 (by decide) ?_
  refine x_lc_leN (tgt := 14) dL_says_6 dL_says_7 (by decide) (fun q => absurd ((pk_lLE (a := l.length + 1) (b := 0) (by omega) (by decide)).mp q) (by omega)) ?_
  refine x_iconst (v := nI 1) dL_says_10 (by decide) ?_
  refine x_goto (tgt := 15) dL_says_11 (by decide) ?_
  refine x_iret dL_says_15 rfl (by first | rfl | assumption) ?_
  exact hq _ h

theorem m_number {G : GT} {C : AH} {Q : QT} {C0 : AH} {sa va : Nat → Nat} {x T : Nat} {S : Nat → Nat} {l : List Nat} {ρ : Rw} {L : List Rw} {K : Nat → Option Rw} {v : Nat} (hN : GN G) (hO : GO G) (hX : GX G sa va) (hT : T ≤ 40000) (hl : l.length + 3 ≤ 120) (hv : v ≤ 99) (h : RF T C0 C x (txS S (l), (l).length, ρ, L, K)) (hq : ∀ C' : AH, RF T C0 C' x (txS S (l ++ nb v), (l ++ nb v).length, ρ, L, K) → Q (some (.int 1)) C') : Mt G M_L_number [.ref x, .int (nI v)] C Q NX := by
  refine Mt_of (by decide) (Nat.le_of_ble_eq_true rfl) ?_
  refine x_room (k := 6) (n := 36) (by decide) (by decide) ?_
  by_cases hb : v < 10
  · skip
    refine x_aload_n dL_number_0 rfl ?_
    refine x_bipush (v := nI 44) dL_number_1 (by decide) ?_
    refine x_cS (c9 := 2) (s9 := 12) (As := [_, _]) hO dL_number_3 o_L_says s_L_says l_L_210 ⟨by decide, by decide⟩ ⟨rfl, rfl⟩ ⟨by omega, by omega⟩ rfl rfl (Nat.le_of_ble_eq_true rfl) (m_says hN hO hX hT (by (try simp only [List.length_append, List.length_cons, List.length_nil]); omega) (by decide) h (fun C1 h => ?_))
    dsimp only [Option.toList, List.cons_append, List.nil_append]
    refine x_if_eqN (tgt := 47) dL_number_6 (by decide) (by decide) ?_
    refine x_iload_n dL_number_9 rfl ?_
    refine x_bipush (v := nI 10) dL_number_10 (by decide) ?_
    refine x_icmp_ltT (tgt := 29) dL_number_12 (by decide) (nI_lt (by omega) (by decide)) ?_
    refine x_aload_n dL_number_29 rfl ?_
    refine x_bipush (v := nI 48) dL_number_30 (by decide) ?_
    refine x_iload_n dL_number_32 rfl ?_
    refine x_bipush (v := nI 10) dL_number_33 (by decide) ?_
    refine x_irem dL_number_35 (by decide) ?_
    rw [pk_rem (by omega) (by decide) (by decide)]
    rw [Nat.mod_eq_of_lt (by omega)]
    refine x_iadd dL_number_36 ?_
    rw [nI_add]
    refine x_cS (c9 := 2) (s9 := 12) (As := [_, _]) hO dL_number_37 o_L_says s_L_says l_L_210 ⟨by decide, by decide⟩ ⟨rfl, rfl⟩ ⟨by omega, by omega⟩ rfl rfl (Nat.le_of_ble_eq_true rfl) (m_says hN hO hX hT (by (try simp only [List.length_append, List.length_cons, List.length_nil]); omega) (by omega) h (fun C1 h => ?_))
    dsimp only [Option.toList, List.cons_append, List.nil_append]
    refine x_if_eqN (tgt := 47) dL_number_40 (by decide) (by decide) ?_
    refine x_iconst (v := nI 1) dL_number_43 (by decide) ?_
    refine x_goto (tgt := 48) dL_number_44 (by decide) ?_
    refine x_iret dL_number_48 rfl (by first | rfl | assumption) ?_
    refine hq _ ?_
    rw [show l ++ nb v = l ++ [44] ++ [48 + v] from by
      unfold nb dgs
      rw [if_pos (by omega)]
      simp only [List.append_assoc, List.cons_append, List.nil_append]]
    exact h
  · skip
    refine x_aload_n dL_number_0 rfl ?_
    refine x_bipush (v := nI 44) dL_number_1 (by decide) ?_
    refine x_cS (c9 := 2) (s9 := 12) (As := [_, _]) hO dL_number_3 o_L_says s_L_says l_L_210 ⟨by decide, by decide⟩ ⟨rfl, rfl⟩ ⟨by omega, by omega⟩ rfl rfl (Nat.le_of_ble_eq_true rfl) (m_says hN hO hX hT (by (try simp only [List.length_append, List.length_cons, List.length_nil]); omega) (by decide) h (fun C1 h => ?_))
    dsimp only [Option.toList, List.cons_append, List.nil_append]
    refine x_if_eqN (tgt := 47) dL_number_6 (by decide) (by decide) ?_
    refine x_iload_n dL_number_9 rfl ?_
    refine x_bipush (v := nI 10) dL_number_10 (by decide) ?_
    refine x_icmp_ltN (tgt := 29) dL_number_12 (by decide) (nI_nlt (by omega) (by omega)) ?_
    refine x_aload_n dL_number_15 rfl ?_
    refine x_bipush (v := nI 48) dL_number_16 (by decide) ?_
    refine x_iload_n dL_number_18 rfl ?_
    refine x_bipush (v := nI 10) dL_number_19 (by decide) ?_
    refine x_idiv dL_number_21 (by decide) ?_
    rw [pk_div (by omega) (by decide) (by decide)]
    refine x_iadd dL_number_22 ?_
    rw [nI_add]
    refine x_cS (c9 := 2) (s9 := 12) (As := [_, _]) hO dL_number_23 o_L_says s_L_says l_L_210 ⟨by decide, by decide⟩ ⟨rfl, rfl⟩ ⟨by omega, by omega⟩ rfl rfl (Nat.le_of_ble_eq_true rfl) (m_says hN hO hX hT (by (try simp only [List.length_append, List.length_cons, List.length_nil]); omega) (by omega) h (fun C1 h => ?_))
    dsimp only [Option.toList, List.cons_append, List.nil_append]
    refine x_if_eqN (tgt := 47) dL_number_26 (by decide) (by decide) ?_
    refine x_aload_n dL_number_29 rfl ?_
    refine x_bipush (v := nI 48) dL_number_30 (by decide) ?_
    refine x_iload_n dL_number_32 rfl ?_
    refine x_bipush (v := nI 10) dL_number_33 (by decide) ?_
    refine x_irem dL_number_35 (by decide) ?_
    rw [pk_rem (by omega) (by decide) (by decide)]
    refine x_iadd dL_number_36 ?_
    rw [nI_add]
    refine x_cS (c9 := 2) (s9 := 12) (As := [_, _]) hO dL_number_37 o_L_says s_L_says l_L_210 ⟨by decide, by decide⟩ ⟨rfl, rfl⟩ ⟨by omega, by omega⟩ rfl rfl (Nat.le_of_ble_eq_true rfl) (m_says hN hO hX hT (by (try simp only [List.length_append, List.length_cons, List.length_nil]); omega) (by omega) h (fun C1 h => ?_))
    dsimp only [Option.toList, List.cons_append, List.nil_append]
    refine x_if_eqN (tgt := 47) dL_number_40 (by decide) (by decide) ?_
    refine x_iconst (v := nI 1) dL_number_43 (by decide) ?_
    refine x_goto (tgt := 48) dL_number_44 (by decide) ?_
    refine x_iret dL_number_48 rfl (by first | rfl | assumption) ?_
    refine hq _ ?_
    rw [show l ++ nb v = l ++ [44] ++ [48 + v / 10] ++ [48 + v % 10] from by
      unfold nb dgs
      rw [if_neg (by omega), if_pos (by omega)]
      simp only [List.append_assoc, List.cons_append, List.nil_append]]
    exact h

theorem shr3 {X i : Nat} (hX : X < 2 ^ 31) (hi : i < 3) : nI X >>> (nI i &&& 31) = nI (X / 2 ^ i) := by
  rcases (show i = 0 ∨ i = 1 ∨ i = 2 by omega) with rfl | rfl | rfl
  · exact pk_shrN hX _ 0 (by decide)
  · exact pk_shrN hX _ 1 (by decide)
  · exact pk_shrN hX _ 2 (by decide)
theorem rem5 {a : Nat} (ha : a < 2 ^ 31) : nI a - nI a / 100000 * 100000 = nI (a % 100000) := pk_rem (d := 100000) ha (by decide) (by decide)
theorem tells_1 {G : GT} {C : AH} {Q : QT} {C0 : AH} {sa va : Nat → Nat} {x T X Y i k0 n0 : Nat} {S : Nat → Nat} {ρ : Rw} {L : List Rw} {K : Nat → Option Rw} (hN : GN G) (hO : GO G) (hX : GX G sa va) (hT : T ≤ 40000) (hX9 : X < 2 ^ 31) (hY9 : Y < 2 ^ 31) (hi : i < 3) (h : RF T C0 C x (txS S (tlK X Y i), (tlK X Y i).length, ρ, L, K)) (kk : ∀ C' : AH, RF T C0 C' x (txS S (tlK X Y (i + 1)), (tlK X Y (i + 1)).length, ρ, L, K) → Ex G M_L_tells Q NX (k0) (n0) 16 [(0, .ref x), (1, .int (nI X)), (2, .int (nI Y)), (3, .int (nI 1)), (4, .int (nI (i + 1)))] [] C') : Ex G M_L_tells Q NX (56 + k0) (336 + n0) 16 [(0, .ref x), (1, .int (nI X)), (2, .int (nI Y)), (3, .int (nI 1)), (4, .int (nI i))] [] C := by
  have hvk : vK X i < 200000 := by
    unfold vK
    have := Nat.mod_lt (X / 2 ^ i) (show 0 < 100000 by decide)
    generalize X / 2 ^ i % 100000 = t at *
    omega
  have hwk : wK Y i < 200000 := by
    unfold wK
    have := Nat.mod_lt (Y / 2 ^ i) (show 0 < 100000 by decide)
    generalize Y / 2 ^ i % 100000 = t at *
    omega
  have hzk : 20 ≤ zK X i ∧ zK X i ≤ 99 := by unfold zK; omega
  have hck : vK X i / 80 % (zK X i + 1) ≤ 99 := by have := Nat.mod_lt (vK X i / 80) (show 0 < zK X i + 1 by omega); omega
  have n1 := nb_len hzk.2
  have n2 := nb_len hck
  have n3 := nb_len (v := 1 + wK Y i % 60) (by omega)
  have n4 := nb_len (v := wK Y i / 60 % 24) (by omega)
  have n5 := nb_len (v := (wK Y i / 60 + 1 + vK X i / 9 % 23) % 24) (by omega)
  have n6 := nb_len (v := 1 + wK Y i / 7 % 30) (by omega)
  have tl := tl_len (X := X) (Y := Y) (k := i) (by omega)
  refine x_iload dL_tells_16 rfl ?_
  refine x_iconst (v := nI 3) dL_tells_18 (by decide) ?_
  refine x_icmp_geN (tgt := 257) dL_tells_19 (by decide) (nI_ge (by omega) (by decide)) ?_
  refine x_iload_n dL_tells_22 rfl ?_
  refine x_if_eqN (tgt := 257) dL_tells_23 (by decide) (by decide) ?_
  refine x_iload_n dL_tells_26 rfl ?_
  refine x_iload dL_tells_27 rfl ?_
  refine x_ishr dL_tells_29 ?_
  rw [shr3 hX9 hi]
  refine x_ldc hO.1 dL_tells_30 k_L_217 ?_
  refine x_irem dL_tells_32 (by decide) ?_
  rw [rem5 (by have := Nat.div_le_self X (2 ^ i); omega)]
  refine x_bipush (v := nI 107) dL_tells_33 (by decide) ?_
  refine x_iload dL_tells_35 rfl ?_
  refine x_imul dL_tells_37 ?_
  rw [pk_mul]
  refine x_iadd dL_tells_38 ?_
  rw [nI_add, show X / 2 ^ i % 100000 + 107 * i = vK X i from rfl]
  refine x_istore dL_tells_39 (by decide) ?_
  refine x_iload_n dL_tells_41 rfl ?_
  refine x_iload dL_tells_42 rfl ?_
  refine x_ishr dL_tells_44 ?_
  rw [shr3 hY9 hi]
  refine x_ldc hO.1 dL_tells_45 k_L_217 ?_
  refine x_irem dL_tells_47 (by decide) ?_
  rw [rem5 (by have := Nat.div_le_self Y (2 ^ i); omega)]
  refine x_bipush (v := nI 109) dL_tells_48 (by decide) ?_
  refine x_iload dL_tells_50 rfl ?_
  refine x_imul dL_tells_52 ?_
  rw [pk_mul]
  refine x_iadd dL_tells_53 ?_
  rw [nI_add, show Y / 2 ^ i % 100000 + 109 * i = wK Y i from rfl]
  refine x_istore dL_tells_54 (by decide) ?_
  refine x_bipush (v := nI 20) dL_tells_56 (by decide) ?_
  refine x_iload dL_tells_58 rfl ?_
  refine x_bipush (v := nI 80) dL_tells_60 (by decide) ?_
  refine x_irem dL_tells_62 (by decide) ?_
  rw [pk_rem (by omega) (by decide) (by decide)]
  refine x_iadd dL_tells_63 ?_
  rw [nI_add, show 20 + vK X i % 80 = zK X i from rfl]
  refine x_istore dL_tells_64 (by decide) ?_
  refine x_aload_n dL_tells_66 rfl ?_
  refine x_bipush (v := nI 98) dL_tells_67 (by decide) ?_
  refine x_cS (c9 := 2) (s9 := 12) (As := [_, _]) hO dL_tells_69 o_L_says s_L_says l_L_210 ⟨by decide, by decide⟩ ⟨rfl, rfl⟩ ⟨by omega, by omega⟩ rfl rfl (Nat.le_of_ble_eq_true rfl) (m_says hN hO hX hT (by (try simp only [List.length_append, List.length_cons, List.length_nil]); omega) (by decide) h (fun C1 h => ?_))
  dsimp only [Option.toList, List.cons_append, List.nil_append]
  refine x_if_eqN (tgt := 249) dL_tells_72 (by decide) (by decide) ?_
  refine x_aload_n dL_tells_75 rfl ?_
  refine x_bipush (v := nI 117) dL_tells_76 (by decide) ?_
  refine x_cS (c9 := 2) (s9 := 12) (As := [_, _]) hO dL_tells_78 o_L_says s_L_says l_L_210 ⟨by decide, by decide⟩ ⟨rfl, rfl⟩ ⟨by omega, by omega⟩ rfl rfl (Nat.le_of_ble_eq_true rfl) (m_says hN hO hX hT (by (try simp only [List.length_append, List.length_cons, List.length_nil]); omega) (by decide) h (fun C1 h => ?_))
  dsimp only [Option.toList, List.cons_append, List.nil_append]
  refine x_if_eqN (tgt := 249) dL_tells_81 (by decide) (by decide) ?_
  refine x_aload_n dL_tells_84 rfl ?_
  refine x_bipush (v := nI 115) dL_tells_85 (by decide) ?_
  refine x_cS (c9 := 2) (s9 := 12) (As := [_, _]) hO dL_tells_87 o_L_says s_L_says l_L_210 ⟨by decide, by decide⟩ ⟨rfl, rfl⟩ ⟨by omega, by omega⟩ rfl rfl (Nat.le_of_ble_eq_true rfl) (m_says hN hO hX hT (by (try simp only [List.length_append, List.length_cons, List.length_nil]); omega) (by decide) h (fun C1 h => ?_))
  dsimp only [Option.toList, List.cons_append, List.nil_append]
  refine x_if_eqN (tgt := 249) dL_tells_90 (by decide) (by decide) ?_
  refine x_aload_n dL_tells_93 rfl ?_
  refine x_iload dL_tells_94 rfl ?_
  refine x_cS (c9 := 6) (s9 := 36) (As := [_, _]) hO dL_tells_96 o_L_number s_L_number l_L_218 ⟨by decide, by decide⟩ ⟨rfl, rfl⟩ ⟨by omega, by omega⟩ rfl rfl (Nat.le_of_ble_eq_true rfl) (m_number hN hO hX hT (by (try simp only [List.length_append, List.length_cons, List.length_nil]); omega) (by omega) h (fun C1 h => ?_))
  dsimp only [Option.toList, List.cons_append, List.nil_append]
  refine x_if_eqN (tgt := 249) dL_tells_99 (by decide) (by decide) ?_
  refine x_aload_n dL_tells_102 rfl ?_
  refine x_iload dL_tells_103 rfl ?_
  refine x_bipush (v := nI 80) dL_tells_105 (by decide) ?_
  refine x_idiv dL_tells_107 (by decide) ?_
  rw [pk_div (by omega) (by decide) (by decide)]
  refine x_iload dL_tells_108 rfl ?_
  refine x_iconst (v := nI 1) dL_tells_110 (by decide) ?_
  refine x_iadd dL_tells_111 ?_
  rw [nI_add]
  refine x_irem dL_tells_112 (nI_ne0 (by omega) (by omega)) ?_
  rw [pk_rem (by omega) (by omega) (by omega)]
  refine x_cS (c9 := 6) (s9 := 36) (As := [_, _]) hO dL_tells_113 o_L_number s_L_number l_L_218 ⟨by decide, by decide⟩ ⟨rfl, rfl⟩ ⟨by omega, by omega⟩ rfl rfl (Nat.le_of_ble_eq_true rfl) (m_number hN hO hX hT (by (try simp only [List.length_append, List.length_cons, List.length_nil]); omega) (by omega) h (fun C1 h => ?_))
  dsimp only [Option.toList, List.cons_append, List.nil_append]
  refine x_if_eqN (tgt := 249) dL_tells_116 (by decide) (by decide) ?_
  refine x_aload_n dL_tells_119 rfl ?_
  refine x_iconst (v := nI 1) dL_tells_120 (by decide) ?_
  refine x_iload dL_tells_121 rfl ?_
  refine x_bipush (v := nI 60) dL_tells_123 (by decide) ?_
  refine x_irem dL_tells_125 (by decide) ?_
  rw [pk_rem (by omega) (by decide) (by decide)]
  refine x_iadd dL_tells_126 ?_
  rw [nI_add]
  refine x_cS (c9 := 6) (s9 := 36) (As := [_, _]) hO dL_tells_127 o_L_number s_L_number l_L_218 ⟨by decide, by decide⟩ ⟨rfl, rfl⟩ ⟨by omega, by omega⟩ rfl rfl (Nat.le_of_ble_eq_true rfl) (m_number hN hO hX hT (by (try simp only [List.length_append, List.length_cons, List.length_nil]); omega) (by omega) h (fun C1 h => ?_))
  dsimp only [Option.toList, List.cons_append, List.nil_append]
  refine x_if_eqN (tgt := 249) dL_tells_130 (by decide) (by decide) ?_
  refine x_aload_n dL_tells_133 rfl ?_
  refine x_iload dL_tells_134 rfl ?_
  refine x_bipush (v := nI 60) dL_tells_136 (by decide) ?_
  refine x_idiv dL_tells_138 (by decide) ?_
  rw [pk_div (by omega) (by decide) (by decide)]
  refine x_bipush (v := nI 24) dL_tells_139 (by decide) ?_
  refine x_irem dL_tells_141 (by decide) ?_
  rw [pk_rem (by omega) (by decide) (by decide)]
  refine x_cS (c9 := 6) (s9 := 36) (As := [_, _]) hO dL_tells_142 o_L_number s_L_number l_L_218 ⟨by decide, by decide⟩ ⟨rfl, rfl⟩ ⟨by omega, by omega⟩ rfl rfl (Nat.le_of_ble_eq_true rfl) (m_number hN hO hX hT (by (try simp only [List.length_append, List.length_cons, List.length_nil]); omega) (by omega) h (fun C1 h => ?_))
  dsimp only [Option.toList, List.cons_append, List.nil_append]
  refine x_if_eqN (tgt := 249) dL_tells_145 (by decide) (by decide) ?_
  refine x_aload_n dL_tells_148 rfl ?_
  refine x_iload dL_tells_149 rfl ?_
  refine x_bipush (v := nI 60) dL_tells_151 (by decide) ?_
  refine x_idiv dL_tells_153 (by decide) ?_
  rw [pk_div (by omega) (by decide) (by decide)]
  refine x_iconst (v := nI 1) dL_tells_154 (by decide) ?_
  refine x_iadd dL_tells_155 ?_
  rw [nI_add]
  refine x_iload dL_tells_156 rfl ?_
  refine x_bipush (v := nI 9) dL_tells_158 (by decide) ?_
  refine x_idiv dL_tells_160 (by decide) ?_
  rw [pk_div (by omega) (by decide) (by decide)]
  refine x_bipush (v := nI 23) dL_tells_161 (by decide) ?_
  refine x_irem dL_tells_163 (by decide) ?_
  rw [pk_rem (by omega) (by decide) (by decide)]
  refine x_iadd dL_tells_164 ?_
  rw [nI_add]
  refine x_bipush (v := nI 24) dL_tells_165 (by decide) ?_
  refine x_irem dL_tells_167 (by decide) ?_
  rw [pk_rem (by omega) (by decide) (by decide)]
  refine x_cS (c9 := 6) (s9 := 36) (As := [_, _]) hO dL_tells_168 o_L_number s_L_number l_L_218 ⟨by decide, by decide⟩ ⟨rfl, rfl⟩ ⟨by omega, by omega⟩ rfl rfl (Nat.le_of_ble_eq_true rfl) (m_number hN hO hX hT (by (try simp only [List.length_append, List.length_cons, List.length_nil]); omega) (by omega) h (fun C1 h => ?_))
  dsimp only [Option.toList, List.cons_append, List.nil_append]
  refine x_if_eqN (tgt := 249) dL_tells_171 (by decide) (by decide) ?_
  refine x_aload_n dL_tells_174 rfl ?_
  refine x_bipush (v := nI 59) dL_tells_175 (by decide) ?_
  refine x_cS (c9 := 2) (s9 := 12) (As := [_, _]) hO dL_tells_177 o_L_says s_L_says l_L_210 ⟨by decide, by decide⟩ ⟨rfl, rfl⟩ ⟨by omega, by omega⟩ rfl rfl (Nat.le_of_ble_eq_true rfl) (m_says hN hO hX hT (by (try simp only [List.length_append, List.length_cons, List.length_nil]); omega) (by decide) h (fun C1 h => ?_))
  dsimp only [Option.toList, List.cons_append, List.nil_append]
  refine x_if_eqN (tgt := 249) dL_tells_180 (by decide) (by decide) ?_
  refine x_aload_n dL_tells_183 rfl ?_
  refine x_bipush (v := nI 112) dL_tells_184 (by decide) ?_
  refine x_cS (c9 := 2) (s9 := 12) (As := [_, _]) hO dL_tells_186 o_L_says s_L_says l_L_210 ⟨by decide, by decide⟩ ⟨rfl, rfl⟩ ⟨by omega, by omega⟩ rfl rfl (Nat.le_of_ble_eq_true rfl) (m_says hN hO hX hT (by (try simp only [List.length_append, List.length_cons, List.length_nil]); omega) (by decide) h (fun C1 h => ?_))
  dsimp only [Option.toList, List.cons_append, List.nil_append]
  refine x_if_eqN (tgt := 249) dL_tells_189 (by decide) (by decide) ?_
  refine x_aload_n dL_tells_192 rfl ?_
  refine x_bipush (v := nI 108) dL_tells_193 (by decide) ?_
  refine x_cS (c9 := 2) (s9 := 12) (As := [_, _]) hO dL_tells_195 o_L_says s_L_says l_L_210 ⟨by decide, by decide⟩ ⟨rfl, rfl⟩ ⟨by omega, by omega⟩ rfl rfl (Nat.le_of_ble_eq_true rfl) (m_says hN hO hX hT (by (try simp only [List.length_append, List.length_cons, List.length_nil]); omega) (by decide) h (fun C1 h => ?_))
  dsimp only [Option.toList, List.cons_append, List.nil_append]
  refine x_if_eqN (tgt := 249) dL_tells_198 (by decide) (by decide) ?_
  refine x_aload_n dL_tells_201 rfl ?_
  refine x_bipush (v := nI 117) dL_tells_202 (by decide) ?_
  refine x_cS (c9 := 2) (s9 := 12) (As := [_, _]) hO dL_tells_204 o_L_says s_L_says l_L_210 ⟨by decide, by decide⟩ ⟨rfl, rfl⟩ ⟨by omega, by omega⟩ rfl rfl (Nat.le_of_ble_eq_true rfl) (m_says hN hO hX hT (by (try simp only [List.length_append, List.length_cons, List.length_nil]); omega) (by decide) h (fun C1 h => ?_))
  dsimp only [Option.toList, List.cons_append, List.nil_append]
  refine x_if_eqN (tgt := 249) dL_tells_207 (by decide) (by decide) ?_
  refine x_aload_n dL_tells_210 rfl ?_
  refine x_bipush (v := nI 103) dL_tells_211 (by decide) ?_
  refine x_cS (c9 := 2) (s9 := 12) (As := [_, _]) hO dL_tells_213 o_L_says s_L_says l_L_210 ⟨by decide, by decide⟩ ⟨rfl, rfl⟩ ⟨by omega, by omega⟩ rfl rfl (Nat.le_of_ble_eq_true rfl) (m_says hN hO hX hT (by (try simp only [List.length_append, List.length_cons, List.length_nil]); omega) (by decide) h (fun C1 h => ?_))
  dsimp only [Option.toList, List.cons_append, List.nil_append]
  refine x_if_eqN (tgt := 249) dL_tells_216 (by decide) (by decide) ?_
  refine x_aload_n dL_tells_219 rfl ?_
  refine x_iconst (v := nI 1) dL_tells_220 (by decide) ?_
  refine x_iload dL_tells_221 rfl ?_
  refine x_bipush (v := nI 7) dL_tells_223 (by decide) ?_
  refine x_idiv dL_tells_225 (by decide) ?_
  rw [pk_div (by omega) (by decide) (by decide)]
  refine x_bipush (v := nI 30) dL_tells_226 (by decide) ?_
  refine x_irem dL_tells_228 (by decide) ?_
  rw [pk_rem (by omega) (by decide) (by decide)]
  refine x_iadd dL_tells_229 ?_
  rw [nI_add]
  refine x_cS (c9 := 6) (s9 := 36) (As := [_, _]) hO dL_tells_230 o_L_number s_L_number l_L_218 ⟨by decide, by decide⟩ ⟨rfl, rfl⟩ ⟨by omega, by omega⟩ rfl rfl (Nat.le_of_ble_eq_true rfl) (m_number hN hO hX hT (by (try simp only [List.length_append, List.length_cons, List.length_nil]); omega) (by omega) h (fun C1 h => ?_))
  dsimp only [Option.toList, List.cons_append, List.nil_append]
  refine x_if_eqN (tgt := 249) dL_tells_233 (by decide) (by decide) ?_
  refine x_aload_n dL_tells_236 rfl ?_
  refine x_bipush (v := nI 59) dL_tells_237 (by decide) ?_
  refine x_cS (c9 := 2) (s9 := 12) (As := [_, _]) hO dL_tells_239 o_L_says s_L_says l_L_210 ⟨by decide, by decide⟩ ⟨rfl, rfl⟩ ⟨by omega, by omega⟩ rfl rfl (Nat.le_of_ble_eq_true rfl) (m_says hN hO hX hT (by (try simp only [List.length_append, List.length_cons, List.length_nil]); omega) (by decide) h (fun C1 h => ?_))
  dsimp only [Option.toList, List.cons_append, List.nil_append]
  refine x_if_eqN (tgt := 249) dL_tells_242 (by decide) (by decide) ?_
  refine x_iconst (v := nI 1) dL_tells_245 (by decide) ?_
  refine x_goto (tgt := 250) dL_tells_246 (by decide) ?_
  refine x_istore_n dL_tells_250 (by decide) ?_
  refine x_iinc (v := nI 1) dL_tells_251 rfl (by decide) (by decide) ?_
  refine x_goto (tgt := 16) dL_tells_254 (by decide) ?_
  refine x_ls [(0, .ref x), (1, .int (nI X)), (2, .int (nI Y)), (3, .int (nI 1)), (4, .int (nI (i + 1)))] ⟨rfl, rfl, rfl, rfl, (by rw [← nI_add]; rfl), trivial⟩ ?_
  refine x_room (k := k0) (n := n0) (by omega) (by omega) ?_
  refine kk _ ?_
  rw [show tlK X Y (i + 1) = tlK X Y i ++ sgK X Y i from rfl]
  simp only [sgK, bsK, busW, plgW, List.append_assoc, List.cons_append, List.nil_append] at h ⊢
  exact h

theorem aErr_tells {X Y : Nat} {S : Nat → Nat} {ρ : Rw} {L : List Rw} {K : Nat → Option Rw} : (aError (txS S (tlT X Y), (tlT X Y).length, ρ, L, K)).2.1 = -1 := by
  unfold aError
  simp only [all_tells]
  rfl
theorem aErr_s {s : St} : (aError s).2.2 = s := rfl
theorem m_tells {G : GT} {C : AH} {Q : QT} {C0 : AH} {sa va : Nat → Nat} {x T n : Nat} {S : Nat → Nat} {ρ : Rw} {L : List Rw} {K : Nat → Option Rw} {X Y : Nat} (hN : GN G) (hO : GO G) (hX : GX G sa va) (hT : T ≤ 40000) (hX9 : X < 2 ^ 31) (hY9 : Y < 2 ^ 31) (h : RF T C0 C x (S, n, ρ, L, K)) (hq : ∀ C' : AH, RF T C0 C' x (txS S (tlT X Y), (tlT X Y).length, ρ, L, K) → Q (some (.int 1)) C') : Mt G M_L_tells [.ref x, .int (nI X), .int (nI Y)] C Q NX := by
  refine Mt_of (by decide) (Nat.le_of_ble_eq_true rfl) ?_
  have tl := tl_len (X := X) (Y := Y) (k := 3) (Nat.le_refl _)
  have n7 := nb_len (v := 1 + Y % 48) (by omega)
  refine x_aload_n dL_tells_0 rfl ?_
  refine x_callV (As := []) 6 hO dL_tells_1 o_X4_clearText v_X4_clearText l_L_214 ⟨by decide, by decide⟩ (RX_K h.1) ⟨by decide, by decide⟩ rfl ⟨Nat.zero_le _, Nat.zero_le _⟩ rfl rfl (Nat.le_of_ble_eq_true rfl) (t_clearText hO hX h.1 (fun _ C9 hR9 hF9 => ?_))
  dsimp only [Option.toList, List.cons_append, List.nil_append]
  rw [show (aClear (S, n, ρ, L, K)).2.1 = nI n from rfl]
  refine x_room (k := 200) (n := 1200) (Nat.le_refl _) (Nat.le_refl _) ?_
  refine x_if_ltN (tgt := 11) dL_tells_4 (by decide) (nI_pos (by have : n ≤ 120 := h.1.1.2.2.2.1; omega)) ?_
  refine x_iconst (v := nI 1) dL_tells_7 (by decide) ?_
  refine x_goto (tgt := 12) dL_tells_8 (by decide) ?_
  refine x_istore_n dL_tells_12 (by decide) ?_
  refine x_iconst (v := nI 0) dL_tells_13 (by decide) ?_
  refine x_istore dL_tells_14 (by decide) ?_
  refine x_ls [(0, .ref x), (1, .int (nI X)), (2, .int (nI Y)), (3, .int (nI 1)), (4, .int (nI 0))] ⟨rfl, rfl, rfl, rfl, rfl, trivial⟩ ?_
  have h : RF T C0 C9 x (txS S (tlK X Y 0), (tlK X Y 0).length, ρ, L, K) := by
    rw [show txS S (tlK X Y 0) = S from txS_nil]
    exact ⟨hR9, Fr_trans h.2 hF9⟩
  refine x_room (k := 56 + (56 + (56 + 20))) (n := 336 + (336 + (336 + 120))) (by decide) (by decide) ?_
  refine tells_1 hN hO hX hT hX9 hY9 (by decide) h (fun C1 h => tells_1 hN hO hX hT hX9 hY9 (by decide) h (fun C2 h => tells_1 hN hO hX hT hX9 hY9 (by decide) h (fun C3 h => ?_)))
  have h : RF T C0 C3 x (txS S (tlK X Y 3), (tlK X Y 3).length, ρ, L, K) := h
  refine x_ls [(0, .ref x), (1, .int (nI X)), (2, .int (nI Y)), (3, .int (nI 1)), (4, .int (nI 3))] ⟨rfl, rfl, rfl, rfl, rfl, trivial⟩ ?_
  refine x_iload dL_tells_16 rfl ?_
  refine x_iconst (v := nI 3) dL_tells_18 (by decide) ?_
  refine x_icmp_geT (tgt := 257) dL_tells_19 (by decide) (by decide) ?_
  refine x_iload_n dL_tells_257 rfl ?_
  refine x_if_eqN (tgt := 313) dL_tells_258 (by decide) (by decide) ?_
  refine x_aload_n dL_tells_261 rfl ?_
  refine x_bipush (v := nI 114) dL_tells_262 (by decide) ?_
  refine x_cS (c9 := 2) (s9 := 12) (As := [_, _]) hO dL_tells_264 o_L_says s_L_says l_L_210 ⟨by decide, by decide⟩ ⟨rfl, rfl⟩ ⟨by omega, by omega⟩ rfl rfl (Nat.le_of_ble_eq_true rfl) (m_says hN hO hX hT (by (try simp only [List.length_append, List.length_cons, List.length_nil]); omega) (by decide) h (fun C1 h => ?_))
  dsimp only [Option.toList, List.cons_append, List.nil_append]
  refine x_if_eqN (tgt := 313) dL_tells_267 (by decide) (by decide) ?_
  refine x_aload_n dL_tells_270 rfl ?_
  refine x_bipush (v := nI 117) dL_tells_271 (by decide) ?_
  refine x_cS (c9 := 2) (s9 := 12) (As := [_, _]) hO dL_tells_273 o_L_says s_L_says l_L_210 ⟨by decide, by decide⟩ ⟨rfl, rfl⟩ ⟨by omega, by omega⟩ rfl rfl (Nat.le_of_ble_eq_true rfl) (m_says hN hO hX hT (by (try simp only [List.length_append, List.length_cons, List.length_nil]); omega) (by decide) h (fun C1 h => ?_))
  dsimp only [Option.toList, List.cons_append, List.nil_append]
  refine x_if_eqN (tgt := 313) dL_tells_276 (by decide) (by decide) ?_
  refine x_aload_n dL_tells_279 rfl ?_
  refine x_bipush (v := nI 110) dL_tells_280 (by decide) ?_
  refine x_cS (c9 := 2) (s9 := 12) (As := [_, _]) hO dL_tells_282 o_L_says s_L_says l_L_210 ⟨by decide, by decide⟩ ⟨rfl, rfl⟩ ⟨by omega, by omega⟩ rfl rfl (Nat.le_of_ble_eq_true rfl) (m_says hN hO hX hT (by (try simp only [List.length_append, List.length_cons, List.length_nil]); omega) (by decide) h (fun C1 h => ?_))
  dsimp only [Option.toList, List.cons_append, List.nil_append]
  refine x_if_eqN (tgt := 313) dL_tells_285 (by decide) (by decide) ?_
  refine x_aload_n dL_tells_288 rfl ?_
  refine x_iconst (v := nI 1) dL_tells_289 (by decide) ?_
  refine x_iload_n dL_tells_290 rfl ?_
  refine x_bipush (v := nI 48) dL_tells_291 (by decide) ?_
  refine x_irem dL_tells_293 (by decide) ?_
  rw [pk_rem (by omega) (by decide) (by decide)]
  refine x_iadd dL_tells_294 ?_
  rw [nI_add]
  refine x_cS (c9 := 6) (s9 := 36) (As := [_, _]) hO dL_tells_295 o_L_number s_L_number l_L_218 ⟨by decide, by decide⟩ ⟨rfl, rfl⟩ ⟨by omega, by omega⟩ rfl rfl (Nat.le_of_ble_eq_true rfl) (m_number hN hO hX hT (by (try simp only [List.length_append, List.length_cons, List.length_nil]); omega) (by omega) h (fun C1 h => ?_))
  dsimp only [Option.toList, List.cons_append, List.nil_append]
  refine x_if_eqN (tgt := 313) dL_tells_298 (by decide) (by decide) ?_
  refine x_aload_n dL_tells_301 rfl ?_
  have h : RF T C0 C1 x (txS S (tlT X Y), (tlT X Y).length, ρ, L, K) := by
      simp only [tlT, runW, List.append_assoc, List.cons_append, List.nil_append] at h ⊢
      exact h
  refine x_callV (As := []) 6 hO dL_tells_302 o_X4_errorPosition v_X4_errorPosition l_L_205 ⟨by decide, by decide⟩ (RX_K h.1) ⟨by decide, by decide⟩ rfl ⟨Nat.zero_le _, Nat.zero_le _⟩ rfl rfl (Nat.le_of_ble_eq_true rfl) (t_errorPosition hO hX h.1 (fun _ C9 hR9 hF9 => ?_))
  dsimp only [Option.toList, List.cons_append, List.nil_append]
  rw [aErr_tells]
  refine x_iconst (v := (-1)) dL_tells_305 (by decide) ?_
  refine x_icmp_neN (tgt := 313) dL_tells_306 (by decide) rfl ?_
  refine x_iconst (v := nI 1) dL_tells_309 (by decide) ?_
  refine x_goto (tgt := 314) dL_tells_310 (by decide) ?_
  refine x_iret dL_tells_314 rfl (by first | rfl | assumption) ?_
  rw [aErr_s] at hR9
  exact hq _ ⟨hR9, Fr_trans h.2 hF9⟩

