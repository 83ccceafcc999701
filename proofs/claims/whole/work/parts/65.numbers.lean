/-! the reference: numbers, words *)-/
theorem num_loop {G : GT} {C : AH} {Q : QT} {X : XT} {m n lo hi : Nat} {S : Nat → Nat} {R : Bool × Nat × Nat} (hO : GO G) (hM : MdS C m) (hn : n ≤ 120) (hS : ∀ i, i < n → S i < 256) (h9 : hi ≤ 999) (hl : lo ≤ 999) (kk : (∀ (r : Int32) (f : Nat → Nat → Int32), TM f m S n R.2.1 R.1 → (R.1 = true → r = nI R.2.2) → TF f (gI C) m → Q (some (.int r)) (wI C f))) : ∀ (fu p' v' : Nat) (h : Nat → Nat → Int32), TM h m S n p' true → TF h (gI C) m → p' ≤ n → Beg v' lo hi → 10 ^ (3 - fu) ≤ v' → fu ≤ 3 → R = nmb S n lo hi fu p' v' → Ex G M_X5_number Q X (mC M_X5_number) (mS M_X5_number) 56 [(0, .ref m), (1, .int (nI lo)), (2, .int (nI hi)), (3, .int (nI v')), (4, .int 1)] [] (wI C h) := by
  obtain ⟨hm0, -⟩ := id hM
  intro fu
  induction fu with
  | zero =>
    intro p' v' h ht hf hpn hbg h10 hfu hN
    have : (10 : Nat) ^ (3 - 0) = 1000 := rfl
    have hb : v' ≤ hi := by
      have q : (v' = 0 ∧ lo = 0) ∨ (0 < v' ∧ ((lo ≤ v' ∧ v' ≤ hi) ∨ (10 * v' ≤ hi ∧ lo ≤ 10 * v' + 9) ∨ (100 * v' ≤ hi ∧ lo ≤ 100 * v' + 99))) := hbg
      omega
    omega
  | succ fu ih =>
      intro p' v' h ht hf hpn hbg h10 hfu hN
      have hb9 : v' ≤ hi := by
        have q : (v' = 0 ∧ lo = 0) ∨ (0 < v' ∧ ((lo ≤ v' ∧ v' ≤ hi) ∨ (10 * v' ≤ hi ∧ lo ≤ 10 * v' + 9) ∨ (100 * v' ≤ hi ∧ lo ≤ 100 * v' + 99))) := hbg
        omega
      refine x_iload dX5_number_56 rfl ?_
      refine x_if_eq (tgt := 142) dX5_number_58 (by decide) (fun c58 => ?_) (fun c58 => ?_)
      · exact absurd c58 (by decide)
      · refine x_aload_n dX5_number_61 rfl ?_
        by_cases hd : isD (ch S n p')
        · have hd1 : 48 ≤ ch S n p' := hd.1
          have hd2 : ch S n p' ≤ 57 := hd.2
          refine x_callV (As := []) 7 hO dX5_number_62 o_X5_digit v_X5_digit l_X5_156 ⟨by decide, by decide⟩ (by first | (simp only [gK_wI]; assumption) | assumption) ⟨by decide, by decide⟩ rfl ⟨by decide, by decide⟩ rfl rfl (Nat.le_of_ble_eq_true rfl) (r_digit (C := wI C h) hO (MdS_wI hM) ht hn hS hpn ?_)
          dsimp only [Option.toList, List.cons_append, List.nil_append]
          rw [if_pos hd]
          refine x_iconst (v := (-1)) dX5_number_65 (by decide) ?_
          refine x_icmp_ne (tgt := 73) dX5_number_66 (by decide) (fun c66 => ?_) (fun c66 => ?_)
          · refine x_bipush (v := nI 10) dX5_number_73 (by decide) ?_
            refine x_iload_n dX5_number_75 rfl ?_
            refine x_imul dX5_number_76 ?_
            rw [pk_mul]
            refine x_aload_n dX5_number_77 rfl ?_
            refine x_callV (As := []) 7 hO dX5_number_78 o_X5_digit v_X5_digit l_X5_156 ⟨by decide, by decide⟩ (by first | (simp only [gK_wI]; assumption) | assumption) ⟨by decide, by decide⟩ rfl ⟨by decide, by decide⟩ rfl rfl (Nat.le_of_ble_eq_true rfl) (r_digit (C := wI C h) hO (MdS_wI hM) ht hn hS hpn ?_)
            dsimp only [Option.toList, List.cons_append, List.nil_append]
            rw [if_pos hd]
            refine x_iadd dX5_number_81 ?_
            try rw [nI_add]
            refine x_istore dX5_number_82 (by decide) ?_
            refine x_iload dX5_number_84 rfl ?_
            refine x_iconst (v := (-1)) dX5_number_86 (by decide) ?_
            refine x_icmp_eq (tgt := 94) dX5_number_87 (by decide) (fun c87 => ?_) (fun c87 => ?_)
            · exact absurd c87 (nI_m1 (by omega))
            · refine x_iconst (v := nI 1) dX5_number_90 (by decide) ?_
              refine x_goto (tgt := 95) dX5_number_91 (by decide) ?_
              refine x_istore dX5_number_95 (by decide) ?_
              refine x_iload dX5_number_97 rfl ?_
              refine x_if_eq (tgt := 125) dX5_number_99 (by decide) (fun c99 => ?_) (fun c99 => ?_)
              · exact absurd c99 (by decide)
              · refine x_aload_n dX5_number_102 rfl ?_
                refine x_iload dX5_number_103 rfl ?_
                refine x_iload_n dX5_number_105 rfl ?_
                refine x_iload_n dX5_number_106 rfl ?_
                refine x_callS (As := [_, _, _]) hO dX5_number_107 o_X5_begins s_X5_begins l_X5_160 ⟨by decide, by decide⟩ ⟨by decide, by decide⟩ rfl rfl (Nat.le_of_ble_eq_true rfl) (r_begins hO h9 hl (by omega) (fun r107 hr107 => ?_))
                dsimp only [Option.toList, List.cons_append, List.nil_append]
                by_cases hb : Beg (10 * v' + (ch S n p' - 48)) lo hi
                · rw [if_pos hb] at hr107
                  subst hr107
                  have en : nmb S n lo hi (fu + 1) p' v' = nmb S n lo hi fu (p' + 1) (10 * v' + (ch S n p' - 48)) := (if_pos hd).trans (if_pos hb)
                  rw [en] at hN
                  refine x_callV (As := [_]) 7 hO dX5_number_110 o_X5_accept v_X5_accept l_X5_152 ⟨by decide, by decide⟩ (by first | (simp only [gK_wI]; assumption) | assumption) ⟨by decide, by decide⟩ rfl ⟨by decide, by decide⟩ rfl rfl (Nat.le_of_ble_eq_true rfl) (r_accept (b := true) hO (MdS_wI hM) ht rfl (fun f110 t110 w110 => ?_))
                  dsimp only [Option.toList, List.cons_append, List.nil_append]
                  refine x_aload_n dX5_number_113 rfl ?_
                  refine x_get 7 hO dX5_number_114 f_X5_143 (by first | (simp only [gK_wI]; assumption) | assumption) ⟨by decide, by decide⟩ (v := .int 1) (congrArg Value.int t110.2.2.2) ?_
                  refine x_istore dX5_number_117 (by decide) ?_
                  refine x_iload dX5_number_119 rfl ?_
                  refine x_istore_n dX5_number_121 (by decide) ?_
                  refine x_goto (tgt := 139) dX5_number_122 (by decide) ?_
                  refine x_goto (tgt := 56) dX5_number_139 (by decide) ?_
                  simp only [gI_wI] at w110
                  try simp only [wI_wI, gI_wI]
                  refine x_ls [(0, .ref m), (1, .int (nI lo)), (2, .int (nI hi)), (3, .int (nI (10 * v' + (ch S n p' - 48)))), (4, .int 1)] ⟨rfl, rfl, rfl, rfl, rfl, trivial⟩ ?_
                  refine ih (p' + 1) (10 * v' + (ch S n p' - 48)) f110 t110 (TF_t w110 hf) (by have := ch_lt (S := S) (n := n) (p := p') rfl (by omega); omega) hb ?_ (by omega) hN
                  have := Nat.pow_succ (n := 10) (m := 3 - (fu + 1))
                  rw [show 3 - fu = (3 - (fu + 1)) + 1 by omega, this]
                  omega
                · rw [if_neg hb] at hr107
                  subst hr107
                  have en : nmb S n lo hi (fu + 1) p' v' = (false, p', v') := (if_pos hd).trans (if_neg hb)
                  rw [en] at hN
                  refine x_callV (As := [_]) 7 hO dX5_number_110 o_X5_accept v_X5_accept l_X5_152 ⟨by decide, by decide⟩ (by first | (simp only [gK_wI]; assumption) | assumption) ⟨by decide, by decide⟩ rfl ⟨by decide, by decide⟩ rfl rfl (Nat.le_of_ble_eq_true rfl) (r_accept (b := false) hO (MdS_wI hM) ht rfl (fun f110 t110 w110 => ?_))
                  dsimp only [Option.toList, List.cons_append, List.nil_append]
                  refine x_aload_n dX5_number_113 rfl ?_
                  refine x_get 7 hO dX5_number_114 f_X5_143 (by first | (simp only [gK_wI]; assumption) | assumption) ⟨by decide, by decide⟩ (v := .int 0) (congrArg Value.int t110.2.2.2) ?_
                  refine x_istore dX5_number_117 (by decide) ?_
                  refine x_iload dX5_number_119 rfl ?_
                  refine x_istore_n dX5_number_121 (by decide) ?_
                  refine x_goto (tgt := 139) dX5_number_122 (by decide) ?_
                  refine x_goto (tgt := 56) dX5_number_139 (by decide) ?_
                  simp only [gI_wI] at w110
                  try simp only [wI_wI, gI_wI]
                  refine x_iload dX5_number_56 rfl ?_
                  refine x_if_eq (tgt := 142) dX5_number_58 (by decide) (fun c58 => ?_) (fun c58 => ?_)
                  · refine x_iload_n dX5_number_142 rfl ?_
                    refine x_iret dX5_number_143 rfl rfl ?_
                    refine kk _ _ ?_ ?_ (TF_t w110 hf)
                    · rw [hN]
                      exact t110
                    · rw [hN]
                      exact fun h => absurd h Bool.false_ne_true
                  · exact absurd rfl c58
          · exact absurd c66 (nI_m1 (by omega))
        · skip
          refine x_callV (As := []) 7 hO dX5_number_62 o_X5_digit v_X5_digit l_X5_156 ⟨by decide, by decide⟩ (by first | (simp only [gK_wI]; assumption) | assumption) ⟨by decide, by decide⟩ rfl ⟨by decide, by decide⟩ rfl rfl (Nat.le_of_ble_eq_true rfl) (r_digit (C := wI C h) hO (MdS_wI hM) ht hn hS hpn ?_)
          dsimp only [Option.toList, List.cons_append, List.nil_append]
          rw [if_neg hd]
          refine x_iconst (v := (-1)) dX5_number_65 (by decide) ?_
          refine x_icmp_ne (tgt := 73) dX5_number_66 (by decide) (fun c66 => ?_) (fun c66 => ?_)
          · exact absurd rfl c66
          · refine x_iconst (v := (-1)) dX5_number_69 (by decide) ?_
            refine x_goto (tgt := 82) dX5_number_70 (by decide) ?_
            refine x_istore dX5_number_82 (by decide) ?_
            refine x_iload dX5_number_84 rfl ?_
            refine x_iconst (v := (-1)) dX5_number_86 (by decide) ?_
            refine x_icmp_eq (tgt := 94) dX5_number_87 (by decide) (fun c87 => ?_) (fun c87 => ?_)
            · refine x_iconst (v := nI 0) dX5_number_94 (by decide) ?_
              refine x_istore dX5_number_95 (by decide) ?_
              refine x_iload dX5_number_97 rfl ?_
              refine x_if_eq (tgt := 125) dX5_number_99 (by decide) (fun c99 => ?_) (fun c99 => ?_)
              · refine x_aload_n dX5_number_125 rfl ?_
                refine x_iload_n dX5_number_126 rfl ?_
                refine x_iload_n dX5_number_127 rfl ?_
                refine x_icmp_lt (tgt := 135) dX5_number_128 (by decide) (fun c128 => ?_) (fun c128 => ?_)
                · simp (disch := omega) only [nI_ltI] at c128
                  refine x_iconst (v := nI 0) dX5_number_135 (by decide) ?_
                  refine x_putZ 7 hO dX5_number_136 f_X5_143 (fw_7_4 _) (by first | (simp only [gK_wI]; assumption) | assumption) ⟨by decide, by decide⟩ rfl (by first | exact Or.inl rfl | exact Or.inr rfl) ?_
                  refine x_goto (tgt := 56) dX5_number_139 (by decide) ?_
                  try simp only [wI_wI, gI_wI]
                  refine x_iload dX5_number_56 rfl ?_
                  refine x_if_eq (tgt := 142) dX5_number_58 (by decide) (fun c58 => ?_) (fun c58 => ?_)
                  · refine x_iload_n dX5_number_142 rfl ?_
                    refine x_iret dX5_number_143 rfl rfl ?_
                    have en : nmb S n lo hi (fu + 1) p' v' = (decide (lo ≤ v'), p', v') := if_neg hd
                    rw [en] at hN
                    try simp only [wI_wI, gI_wI]
                    refine kk _ _ ?_ ?_ (fun a j q => ?_)
                    · rw [hN]
                      refine ⟨?_, fun i hi => ?_, ?_, ?_⟩
                      · rw [up2_n (by omega)]; exact ht.1
                      · rw [up2_n (by omega)]; exact ht.2.1 i hi
                      · rw [up2_n (by omega)]; exact ht.2.2.1
                      · rw [up2_s]
                        first
                          | (rw [if_pos (show decide (lo ≤ v') = true from decide_eq_true (by omega))]; rfl)
                          | (rw [if_neg (show ¬ decide (lo ≤ v') = true from fun q => absurd (of_decide_eq_true q) (by omega))]; rfl)
                    · rw [hN]
                      exact fun _ => rfl
                    · rw [up2_n (fun h => q ⟨h.1, Or.inr h.2⟩)]
                      exact hf a j q
                  · exact absurd rfl c58
                · simp (disch := omega) only [nI_ltI] at c128
                  refine x_iconst (v := nI 1) dX5_number_131 (by decide) ?_
                  refine x_goto (tgt := 136) dX5_number_132 (by decide) ?_
                  refine x_putZ 7 hO dX5_number_136 f_X5_143 (fw_7_4 _) (by first | (simp only [gK_wI]; assumption) | assumption) ⟨by decide, by decide⟩ rfl (by first | exact Or.inl rfl | exact Or.inr rfl) ?_
                  refine x_goto (tgt := 56) dX5_number_139 (by decide) ?_
                  try simp only [wI_wI, gI_wI]
                  refine x_iload dX5_number_56 rfl ?_
                  refine x_if_eq (tgt := 142) dX5_number_58 (by decide) (fun c58 => ?_) (fun c58 => ?_)
                  · refine x_iload_n dX5_number_142 rfl ?_
                    refine x_iret dX5_number_143 rfl rfl ?_
                    have en : nmb S n lo hi (fu + 1) p' v' = (decide (lo ≤ v'), p', v') := if_neg hd
                    rw [en] at hN
                    try simp only [wI_wI, gI_wI]
                    refine kk _ _ ?_ ?_ (fun a j q => ?_)
                    · rw [hN]
                      refine ⟨?_, fun i hi => ?_, ?_, ?_⟩
                      · rw [up2_n (by omega)]; exact ht.1
                      · rw [up2_n (by omega)]; exact ht.2.1 i hi
                      · rw [up2_n (by omega)]; exact ht.2.2.1
                      · rw [up2_s]
                        first
                          | (rw [if_pos (show decide (lo ≤ v') = true from decide_eq_true (by omega))]; rfl)
                          | (rw [if_neg (show ¬ decide (lo ≤ v') = true from fun q => absurd (of_decide_eq_true q) (by omega))]; rfl)
                    · rw [hN]
                      exact fun _ => rfl
                    · rw [up2_n (fun h => q ⟨h.1, Or.inr h.2⟩)]
                      exact hf a j q
                  · exact absurd rfl c58
              · exact absurd rfl c99
            · exact absurd rfl c87

theorem r_number {G : GT} {C : AH} {Q : QT} {X : XT} {m n p : Nat} {S : Nat → Nat} {g : Bool} {lo hi : Nat} (hO : GO G) (hM : MdS C m) (hT : TM (gI C) m S n p g) (hn : n ≤ 120) (hS : ∀ i, i < n → S i < 256) (hp : p ≤ n) (h9 : hi ≤ 999) (hl : lo ≤ 999) (hq : ∀ (r : Int32) (f : Nat → Nat → Int32), TM f m S n (if g = true then pNum S n lo hi p else (false, p, 0)).2.1 (if g = true then pNum S n lo hi p else (false, p, 0)).1 → ((if g = true then pNum S n lo hi p else (false, p, 0)).1 = true → r = nI (if g = true then pNum S n lo hi p else (false, p, 0)).2.2) → TF f (gI C) m → Q (some (.int r)) (wI C f)) : Mt G M_X5_number [.ref m, .int (nI lo), .int (nI hi)] C Q X := by
  refine Mt_of (by decide) (Nat.le_of_ble_eq_true rfl) ?_
  obtain ⟨hm0, ⟨g1, g6, g7, g8, g9, g10, g12, g13, g14, g15, g16, g17, g18⟩, k1, k2, k3, k4, k5, k6, k7, k8, k9, k10, k11, k12, k13, hmz⟩ := id hM
  refine x_aload_n dX5_number_0 rfl ?_
  refine x_aload_n dX5_number_1 rfl ?_
  refine x_bipush (v := nI 44) dX5_number_2 (by decide) ?_
  refine x_callV (As := [_]) 7 hO dX5_number_4 o_X5_isNext v_X5_isNext l_X5_149 ⟨by decide, by decide⟩ (by first | (simp only [gK_wI]; assumption) | assumption) ⟨by decide, by decide⟩ rfl ⟨by decide, by decide⟩ rfl rfl (Nat.le_of_ble_eq_true rfl) (r_isNext hO hM hT hn hS hp (by decide) (fun r4 hr4 => ?_))
  dsimp only [Option.toList, List.cons_append, List.nil_append]
  refine x_callV (As := [_]) 7 hO dX5_number_7 o_X5_accept v_X5_accept l_X5_152 ⟨by decide, by decide⟩ (by first | (simp only [gK_wI]; assumption) | assumption) ⟨by decide, by decide⟩ rfl ⟨by decide, by decide⟩ rfl rfl (Nat.le_of_ble_eq_true rfl) (r_accept (b := decide (ch S n p = 44)) hO hM hT (by rw [hr4]; simp only [decide_eq_true_eq]) (fun f7 t7 w7 => ?_))
  dsimp only [Option.toList, List.cons_append, List.nil_append]
  obtain ⟨g1, hg1⟩ : ∃ g1, (g && decide (ch S n p = 44)) = g1 := ⟨_, rfl⟩
  rw [hg1] at t7
  obtain ⟨p1, hp1e⟩ : ∃ p1, (if g1 = true then p + 1 else p) = p1 := ⟨_, rfl⟩
  rw [hp1e] at t7
  have hg : g1 = true → g = true ∧ ch S n p = 44 := fun q => by
    rw [← hg1, Bool.and_eq_true] at q
    exact ⟨q.1, of_decide_eq_true q.2⟩
  have hp1 : p1 ≤ n := by
    rw [← hp1e]
    split
    · rename_i q
      have := ch_lt (hg q).2 (by decide)
      omega
    · exact hp
  refine x_aload_n dX5_number_10 rfl ?_
  refine x_callV (As := []) 7 hO dX5_number_11 o_X5_digit v_X5_digit l_X5_156 ⟨by decide, by decide⟩ (by first | (simp only [gK_wI]; assumption) | assumption) ⟨by decide, by decide⟩ rfl ⟨by decide, by decide⟩ rfl rfl (Nat.le_of_ble_eq_true rfl) (r_digit (C := wI C f7) hO (MdS_wI hM) t7 hn hS hp1 ?_)
  dsimp only [Option.toList, List.cons_append, List.nil_append]
  by_cases hd : isD (ch S n p1)
  · rw [if_pos hd]
    have hd1 : 48 ≤ ch S n p1 := hd.1
    have hd2 : ch S n p1 ≤ 57 := hd.2
    refine x_istore_n dX5_number_14 (by decide) ?_
    refine x_aload_n dX5_number_15 rfl ?_
    refine x_iload_n dX5_number_16 rfl ?_
    refine x_iconst (v := (-1)) dX5_number_17 (by decide) ?_
    refine x_icmp_eq (tgt := 34) dX5_number_18 (by decide) (fun c18 => ?_) (fun c18 => ?_)
    · exact absurd c18 (nI_m1 (by omega))
    · refine x_iload_n dX5_number_21 rfl ?_
      refine x_iload_n dX5_number_22 rfl ?_
      refine x_iload_n dX5_number_23 rfl ?_
      refine x_callS (As := [_, _, _]) hO dX5_number_24 o_X5_begins s_X5_begins l_X5_160 ⟨by decide, by decide⟩ ⟨by decide, by decide⟩ rfl rfl (Nat.le_of_ble_eq_true rfl) (r_begins hO h9 hl (by omega) (fun r24 hr24 => ?_))
      dsimp only [Option.toList, List.cons_append, List.nil_append]
      refine x_if_eq (tgt := 34) dX5_number_27 (by decide) (fun c27 => ?_) (fun c27 => ?_)
      · have p24 := (ite01 hr24).1 c27
        have hR : (if g = true then pNum S n lo hi p else (false, p, 0)).1 = false ∧ (if g = true then pNum S n lo hi p else (false, p, 0)).2.1 = p1 := by
          cases hgg : g with
          | false =>
            rw [if_neg Bool.false_ne_true]
            rw [hgg] at hg1
            have hg1 : g1 = false := hg1.symm
            rw [hg1, if_neg Bool.false_ne_true] at hp1e
            exact ⟨rfl, hp1e⟩
          | true =>
            rw [if_pos rfl]
            unfold pNum
            by_cases hc : ch S n p = 44
            · have hg1 : g1 = true := by rw [← hg1, hgg, decide_eq_true hc]; rfl
              rw [hg1, if_pos rfl] at hp1e
              subst hp1e
              rw [if_pos hc, if_neg (fun q => p24 q.2)]
              exact ⟨rfl, rfl⟩
            · have hg1 : g1 = false := by rw [← hg1, hgg, decide_eq_false hc]; rfl
              rw [hg1, if_neg Bool.false_ne_true] at hp1e
              rw [if_neg hc]
              exact ⟨rfl, hp1e⟩
        refine x_iconst (v := nI 0) dX5_number_34 (by decide) ?_
        refine x_callV (As := [_]) 7 hO dX5_number_35 o_X5_accept v_X5_accept l_X5_152 ⟨by decide, by decide⟩ (by first | (simp only [gK_wI]; assumption) | assumption) ⟨by decide, by decide⟩ rfl ⟨by decide, by decide⟩ rfl rfl (Nat.le_of_ble_eq_true rfl) (r_accept (b := false) hO (MdS_wI hM) t7 rfl (fun f35 t35 w35 => ?_))
        dsimp only [Option.toList, List.cons_append, List.nil_append]
        have hz35 : (g1 && false) = false := Bool.and_false g1
        rw [hz35] at t35
        refine x_aload_n dX5_number_38 rfl ?_
        refine x_get 7 hO dX5_number_39 f_X5_143 (by first | (simp only [gK_wI]; assumption) | assumption) ⟨by decide, by decide⟩ (v := .int 0) (congrArg Value.int t35.2.2.2) ?_
        refine x_if_eq (tgt := 53) dX5_number_42 (by decide) (fun c42 => ?_) (fun c42 => ?_)
        · refine x_iconst (v := nI 0) dX5_number_53 (by decide) ?_
          refine x_istore dX5_number_54 (by decide) ?_
          refine x_iload dX5_number_56 rfl ?_
          refine x_if_eq (tgt := 142) dX5_number_58 (by decide) (fun c58 => ?_) (fun c58 => ?_)
          · refine x_iload_n dX5_number_142 rfl ?_
            refine x_iret dX5_number_143 rfl rfl ?_
            simp only [gI_wI] at w7 w35
            try simp only [wI_wI, gI_wI]
            refine hq _ _ ?_ (fun q => absurd (hR.1.symm.trans q) Bool.false_ne_true) (TF_t w35 w7)
            rw [hR.1, hR.2]
            exact t35
          · exact absurd rfl c58
        · exact absurd rfl c42
      · have p24 := (ite01 hr24).2 c27
        refine x_iconst (v := nI 1) dX5_number_30 (by decide) ?_
        refine x_goto (tgt := 35) dX5_number_31 (by decide) ?_
        refine x_callV (As := [_]) 7 hO dX5_number_35 o_X5_accept v_X5_accept l_X5_152 ⟨by decide, by decide⟩ (by first | (simp only [gK_wI]; assumption) | assumption) ⟨by decide, by decide⟩ rfl ⟨by decide, by decide⟩ rfl rfl (Nat.le_of_ble_eq_true rfl) (r_accept (b := true) hO (MdS_wI hM) t7 rfl (fun f35 t35 w35 => ?_))
        dsimp only [Option.toList, List.cons_append, List.nil_append]
        rw [Bool.and_true] at t35
        cases hg1v : g1 with
        | false =>
          rw [hg1v] at t7 t35
          refine x_aload_n dX5_number_38 rfl ?_
          refine x_get 7 hO dX5_number_39 f_X5_143 (by first | (simp only [gK_wI]; assumption) | assumption) ⟨by decide, by decide⟩ (v := .int 0) (congrArg Value.int t35.2.2.2) ?_
          refine x_if_eq (tgt := 53) dX5_number_42 (by decide) (fun c42 => ?_) (fun c42 => ?_)
          · refine x_iconst (v := nI 0) dX5_number_53 (by decide) ?_
            refine x_istore dX5_number_54 (by decide) ?_
            refine x_iload dX5_number_56 rfl ?_
            refine x_if_eq (tgt := 142) dX5_number_58 (by decide) (fun c58 => ?_) (fun c58 => ?_)
            · refine x_iload_n dX5_number_142 rfl ?_
              refine x_iret dX5_number_143 rfl rfl ?_
              rw [hg1v] at hg1
              have hR : (if g = true then pNum S n lo hi p else (false, p, 0)).1 = false ∧ (if g = true then pNum S n lo hi p else (false, p, 0)).2.1 = p1 := by
                rw [hg1v, if_neg Bool.false_ne_true] at hp1e
                cases hgg : g with
                | false =>
                  rw [if_neg Bool.false_ne_true]
                  exact ⟨rfl, hp1e⟩
                | true =>
                  rw [if_pos rfl]
                  unfold pNum
                  by_cases hc : ch S n p = 44
                  · rw [hgg, decide_eq_true hc] at hg1
                    exact nomatch hg1
                  · rw [if_neg hc]
                    exact ⟨rfl, hp1e⟩
              simp only [gI_wI] at w7 w35
              try simp only [wI_wI, gI_wI]
              refine hq _ _ ?_ (fun q => absurd (hR.1.symm.trans q) Bool.false_ne_true) (TF_t w35 w7)
              rw [hR.1, hR.2]
              exact t35
            · exact absurd rfl c58
          · exact absurd rfl c42
        | true =>
          rw [hg1v] at t35
          obtain ⟨hgg, hcc⟩ := hg hg1v
          rw [hg1v, if_pos rfl] at hp1e
          have eP : pNum S n lo hi p = if ch S n (p + 1) = 48 then (true, p + 2, 0) else nmb S n lo hi 3 (p + 2) (ch S n (p + 1) - 48) := (if_pos hcc).trans (if_pos (by rw [hp1e]; exact ⟨hd, p24⟩))
          rw [if_pos hgg, eP] at hq
          refine x_aload_n dX5_number_38 rfl ?_
          refine x_get 7 hO dX5_number_39 f_X5_143 (by first | (simp only [gK_wI]; assumption) | assumption) ⟨by decide, by decide⟩ (v := .int 1) (congrArg Value.int t35.2.2.2) ?_
          refine x_if_eq (tgt := 53) dX5_number_42 (by decide) (fun c42 => ?_) (fun c42 => ?_)
          · exact absurd c42 (by decide)
          · refine x_iload_n dX5_number_45 rfl ?_
            refine x_if_le (tgt := 53) dX5_number_46 (by decide) (fun c46 => ?_) (fun c46 => ?_)
            · simp (disch := omega) only [nI_leI0] at c46
              refine x_iconst (v := nI 0) dX5_number_53 (by decide) ?_
              refine x_istore dX5_number_54 (by decide) ?_
              refine x_iload dX5_number_56 rfl ?_
              refine x_if_eq (tgt := 142) dX5_number_58 (by decide) (fun c58 => ?_) (fun c58 => ?_)
              · refine x_iload_n dX5_number_142 rfl ?_
                refine x_iret dX5_number_143 rfl rfl ?_
                simp only [gI_wI] at w7 w35
                try simp only [wI_wI, gI_wI]
                have h48 : ch S n (p + 1) = 48 := by rw [hp1e]; omega
                rw [if_pos h48] at hq
                rw [c46]
                refine hq _ _ ?_ (fun _ => rfl) (TF_t w35 w7)
                rw [← hp1e] at t35
                exact t35
              · exact absurd rfl c58
            · simp (disch := omega) only [nI_leI0] at c46
              refine x_iconst (v := nI 1) dX5_number_49 (by decide) ?_
              refine x_goto (tgt := 54) dX5_number_50 (by decide) ?_
              refine x_istore dX5_number_54 (by decide) ?_
              simp only [gI_wI] at w7 w35
              try simp only [wI_wI, gI_wI]
              refine x_ls [(0, .ref m), (1, .int (nI lo)), (2, .int (nI hi)), (3, .int (nI (ch S n p1 - 48))), (4, .int 1)] ⟨rfl, rfl, rfl, rfl, rfl, trivial⟩ ?_
              have h48 : ¬ ch S n (p + 1) = 48 := by rw [hp1e]; omega
              rw [if_neg h48] at hq
              have hp1n := ch_lt (S := S) (n := n) (p := p1) rfl (by omega)
              refine num_loop hO hM hn hS h9 hl hq 3 (p1 + 1) (ch S n p1 - 48) f35 t35 (TF_t w35 w7) (by omega) p24 (by show 1 ≤ _; omega) (Nat.le_refl _) ?_
              rw [← hp1e]
  · rw [if_neg hd]
    have hR : (if g = true then pNum S n lo hi p else (false, p, 0)).1 = false ∧ (if g = true then pNum S n lo hi p else (false, p, 0)).2.1 = p1 := by
      cases hgg : g with
      | false =>
        rw [if_neg Bool.false_ne_true]
        rw [hgg] at hg1
        have hg1 : g1 = false := hg1.symm
        rw [hg1, if_neg Bool.false_ne_true] at hp1e
        exact ⟨rfl, hp1e⟩
      | true =>
        rw [if_pos rfl]
        unfold pNum
        by_cases hc : ch S n p = 44
        · have hg1 : g1 = true := by rw [← hg1, hgg, decide_eq_true hc]; rfl
          rw [hg1, if_pos rfl] at hp1e
          subst hp1e
          rw [if_pos hc, if_neg (fun q => hd q.1)]
          exact ⟨rfl, rfl⟩
        · have hg1 : g1 = false := by rw [← hg1, hgg, decide_eq_false hc]; rfl
          rw [hg1, if_neg Bool.false_ne_true] at hp1e
          rw [if_neg hc]
          exact ⟨rfl, hp1e⟩
    refine x_istore_n dX5_number_14 (by decide) ?_
    refine x_aload_n dX5_number_15 rfl ?_
    refine x_iload_n dX5_number_16 rfl ?_
    refine x_iconst (v := (-1)) dX5_number_17 (by decide) ?_
    refine x_icmp_eq (tgt := 34) dX5_number_18 (by decide) (fun c18 => ?_) (fun c18 => ?_)
    · refine x_iconst (v := nI 0) dX5_number_34 (by decide) ?_
      refine x_callV (As := [_]) 7 hO dX5_number_35 o_X5_accept v_X5_accept l_X5_152 ⟨by decide, by decide⟩ (by first | (simp only [gK_wI]; assumption) | assumption) ⟨by decide, by decide⟩ rfl ⟨by decide, by decide⟩ rfl rfl (Nat.le_of_ble_eq_true rfl) (r_accept (b := false) hO (MdS_wI hM) t7 rfl (fun f35 t35 w35 => ?_))
      dsimp only [Option.toList, List.cons_append, List.nil_append]
      have hz35 : (g1 && false) = false := Bool.and_false g1
      rw [hz35] at t35
      refine x_aload_n dX5_number_38 rfl ?_
      refine x_get 7 hO dX5_number_39 f_X5_143 (by first | (simp only [gK_wI]; assumption) | assumption) ⟨by decide, by decide⟩ (v := .int 0) (congrArg Value.int t35.2.2.2) ?_
      refine x_if_eq (tgt := 53) dX5_number_42 (by decide) (fun c42 => ?_) (fun c42 => ?_)
      · refine x_iconst (v := nI 0) dX5_number_53 (by decide) ?_
        refine x_istore dX5_number_54 (by decide) ?_
        refine x_iload dX5_number_56 rfl ?_
        refine x_if_eq (tgt := 142) dX5_number_58 (by decide) (fun c58 => ?_) (fun c58 => ?_)
        · refine x_iload_n dX5_number_142 rfl ?_
          refine x_iret dX5_number_143 rfl rfl ?_
          simp only [gI_wI] at w7 w35
          try simp only [wI_wI, gI_wI]
          refine hq _ _ ?_ (fun q => absurd (hR.1.symm.trans q) Bool.false_ne_true) (TF_t w35 w7)
          rw [hR.1, hR.2]
          exact t35
        · exact absurd rfl c58
      · exact absurd rfl c42
    · exact absurd rfl c18

