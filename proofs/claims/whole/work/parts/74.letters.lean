/-! the reference: signs *)-/
theorem dgF {v : Nat} (h : v < 1000) : nI 48 + ((nI v).toInt64 / lN (10 ^ 0) - (nI v).toInt64 / lN (10 ^ 0) / 10 * 10).toInt32 = nI (48 + v % 10) ∧ nI 48 + ((nI v).toInt64 / lN (10 ^ 1) - (nI v).toInt64 / lN (10 ^ 1) / 10 * 10).toInt32 = nI (48 + v / 10 % 10) ∧ nI 48 + ((nI v).toInt64 / lN (10 ^ 2) - (nI v).toInt64 / lN (10 ^ 2) / 10 * 10).toInt32 = nI (48 + v / 100) := by
  have q : ∀ v : Fin 1000, nI 48 + ((nI v.val).toInt64 / lN (10 ^ 0) - (nI v.val).toInt64 / lN (10 ^ 0) / 10 * 10).toInt32 = nI (48 + v.val % 10) ∧ nI 48 + ((nI v.val).toInt64 / lN (10 ^ 1) - (nI v.val).toInt64 / lN (10 ^ 1) / 10 * 10).toInt32 = nI (48 + v.val / 10 % 10) ∧ nI 48 + ((nI v.val).toInt64 / lN (10 ^ 2) - (nI v.val).toInt64 / lN (10 ^ 2) / 10 * 10).toInt32 = nI (48 + v.val / 100) := by decide +kernel
  exact q ⟨v, h⟩
theorem p10ne {e : Nat} (h : e < 3) : ¬ lN (10 ^ e) = 0 := by
  rcases (show e = 0 ∨ e = 1 ∨ e = 2 by omega) with rfl | rfl | rfl <;> decide
theorem dgV {v k : Nat} (h : v < 1000) (hk : k < (dgs v).length) : nI 48 + ((nI v).toInt64 / lN (10 ^ ((dgs v).length - 1 - k)) - (nI v).toInt64 / lN (10 ^ ((dgs v).length - 1 - k)) / 10 * 10).toInt32 = nI ((dgs v).getD k 0) := by
  obtain ⟨q0, q1, q2⟩ := dgF h
  by_cases h1 : v < 10
  · have e : dgs v = [48 + v] := if_pos h1
    rw [e] at hk ⊢
    have : k = 0 := by
      have : k < 1 := hk
      omega
    subst this
    rw [Nat.mod_eq_of_lt h1] at q0
    exact q0
  · by_cases h2 : v < 100
    · have e : dgs v = [48 + v / 10, 48 + v % 10] := (if_neg h1).trans (if_pos h2)
      rw [e] at hk ⊢
      have hk : k < 2 := hk
      rw [Nat.mod_eq_of_lt (show v / 10 < 10 by omega)] at q1
      rcases (show k = 0 ∨ k = 1 by omega) with rfl | rfl
      · exact q1
      · exact q0
    · have e : dgs v = [48 + v / 100, 48 + v / 10 % 10, 48 + v % 10] := (if_neg h1).trans (if_neg h2)
      rw [e] at hk ⊢
      have hk : k < 3 := hk
      rcases (show k = 0 ∨ k = 1 ∨ k = 2 by omega) with rfl | rfl | rfl
      · exact q2
      · exact q1
      · exact q0
def ltV (w k : Nat) : Int32 := if k < (strW (4 + w)).length then nI ((strW (4 + w)).getD k 0) else -1
theorem r_digits {G : GT} {C : AH} {Q : QT} {X : XT} {v : Nat} (hv : v < 1000) (hq : Q (some (.int (nI (dgs v).length))) C) : Mt G M_X5_digits [.int (nI v)] C Q X := by
  refine Mt_of (by decide) (Nat.le_of_ble_eq_true rfl) ?_
  refine x_iload_n dX5_digits_0 rfl ?_
  refine x_bipush (v := nI 99) dX5_digits_1 (by decide) ?_
  refine x_icmp_le (tgt := 10) dX5_digits_3 (by decide) (fun c3 => ?_) (fun c3 => ?_)
  · simp (disch := omega) only [nI_leI] at c3
    refine x_iload_n dX5_digits_10 rfl ?_
    refine x_bipush (v := nI 9) dX5_digits_11 (by decide) ?_
    refine x_icmp_le (tgt := 20) dX5_digits_13 (by decide) (fun c13 => ?_) (fun c13 => ?_)
    · simp (disch := omega) only [nI_leI] at c13
      have e : (dgs v).length = 1 := by
        unfold dgs
        rw [if_pos (by omega)]; rfl
      rw [e] at hq
      refine x_iconst (v := nI 1) dX5_digits_20 (by decide) ?_
      refine x_iret dX5_digits_21 rfl rfl ?_
      exact hq
    · simp (disch := omega) only [nI_leI] at c13
      have e : (dgs v).length = 2 := by
        unfold dgs
        rw [if_neg (by omega), if_pos (by omega)]; rfl
      rw [e] at hq
      refine x_iconst (v := nI 2) dX5_digits_16 (by decide) ?_
      refine x_goto (tgt := 21) dX5_digits_17 (by decide) ?_
      refine x_iret dX5_digits_21 rfl rfl ?_
      exact hq
  · simp (disch := omega) only [nI_leI] at c3
    have e : (dgs v).length = 3 := by
      unfold dgs
      rw [if_neg (by omega), if_neg (by omega)]; rfl
    rw [e] at hq
    refine x_iconst (v := nI 3) dX5_digits_6 (by decide) ?_
    refine x_goto (tgt := 21) dX5_digits_7 (by decide) ?_
    refine x_iret dX5_digits_21 rfl rfl ?_
    exact hq
theorem r_digitOf {G : GT} {C : AH} {Q : QT} {X : XT} {v k : Nat} (hO : GO G) (hv : v < 1000) (hk : k < (dgs v).length) (hq : Q (some (.int (nI ((dgs v).getD k 0)))) C) : Mt G M_X5_digitOf [.int (nI v), .int (nI k)] C Q X := by
  refine Mt_of (by decide) (Nat.le_of_ble_eq_true rfl) ?_
  have d3 := dgs_3 (v := v)
  have d33 := d3.2.2
  refine x_bipush (v := nI 48) dX5_digitOf_0 (by decide) ?_
  refine x_iload_n dX5_digitOf_2 rfl ?_
  refine x_i2l dX5_digitOf_3 ?_
  refine x_iload_n dX5_digitOf_4 rfl ?_
  refine x_callS (As := [_]) hO dX5_digitOf_5 o_X5_digits s_X5_digits l_X5_229 ⟨by decide, by decide⟩ ⟨by decide, by decide⟩ rfl rfl (Nat.le_of_ble_eq_true rfl) (r_digits hv ?_)
  dsimp only [Option.toList, List.cons_append, List.nil_append]
  refine x_iconst (v := nI 1) dX5_digitOf_8 (by decide) ?_
  refine x_isub dX5_digitOf_9 ?_
  refine x_iload_n dX5_digitOf_10 rfl ?_
  refine x_isub dX5_digitOf_11 ?_
  rw [show nI (dgs v).length - nI 1 = nI ((dgs v).length - 1) from pk_sub (by omega), pk_sub (by omega)]
  refine x_callS (As := [_]) hO dX5_digitOf_12 o_X5_tenTo s_X5_tenTo l_X5_232 ⟨by decide, by decide⟩ ⟨by decide, by decide⟩ rfl rfl (Nat.le_of_ble_eq_true rfl) (r_tenTo hO (by omega) ?_)
  dsimp only [Option.toList, List.cons_append, List.nil_append]
  refine x_ldiv dX5_digitOf_15 (p10ne (by omega)) ?_
  refine x_ldc2 hO.1 dX5_digitOf_16 k_X5_58 ?_
  refine x_lrem dX5_digitOf_19 (by decide) ?_
  refine x_l2i dX5_digitOf_20 ?_
  refine x_iadd dX5_digitOf_21 ?_
  rw [dgV hv hk]
  refine x_iret dX5_digitOf_22 rfl rfl ?_
  exact hq

theorem r_letterOf {G : GT} {C : AH} {Q : QT} {X : XT} {w k : Nat} (hw : w < 4) (hk : k < 1000) (hq : Q (some (.int (ltV w k))) C) : Mt G M_X5_letterOf [.int (nI w), .int (nI k)] C Q X := by
  refine Mt_of (by decide) (Nat.le_of_ble_eq_true rfl) ?_
  rcases (show w = 0 ∨ w = 1 ∨ w = 2 ∨ w = 3 by omega) with rfl | rfl | rfl | rfl
  · refine x_iload_n dX5_letterOf_0 rfl ?_
    refine x_if_ne (tgt := 35) dX5_letterOf_1 (by decide) (fun c1 => ?_) (fun c1 => ?_)
    · exact absurd rfl c1
    · refine x_iload_n dX5_letterOf_4 rfl ?_
      refine x_if_ne (tgt := 13) dX5_letterOf_5 (by decide) (fun c5 => ?_) (fun c5 => ?_)
      · simp (disch := omega) only [nI_z] at c5
        refine x_iload_n dX5_letterOf_13 rfl ?_
        refine x_iconst (v := nI 1) dX5_letterOf_14 (by decide) ?_
        refine x_icmp_ne (tgt := 23) dX5_letterOf_15 (by decide) (fun c15 => ?_) (fun c15 => ?_)
        · simp (disch := omega) only [nI_eq] at c15
          refine x_iload_n dX5_letterOf_23 rfl ?_
          refine x_iconst (v := nI 2) dX5_letterOf_24 (by decide) ?_
          refine x_icmp_ne (tgt := 33) dX5_letterOf_25 (by decide) (fun c25 => ?_) (fun c25 => ?_)
          · simp (disch := omega) only [nI_eq] at c25
            refine x_iconst (v := (-1)) dX5_letterOf_33 (by decide) ?_
            refine x_iret dX5_letterOf_34 rfl rfl ?_
            first
              | exact hq
              | (rw [show ltV 0 k = -1 from if_neg (by show ¬ k < 3; omega)] at hq; exact hq)
          · simp (disch := omega) only [nI_eq] at c25
            subst c25
            refine x_bipush (v := nI 116) dX5_letterOf_28 (by decide) ?_
            refine x_goto (tgt := 34) dX5_letterOf_30 (by decide) ?_
            refine x_iret dX5_letterOf_34 rfl rfl ?_
            first
              | exact hq
              | (rw [show ltV 0 k = -1 from if_neg (by show ¬ k < 3; omega)] at hq; exact hq)
        · simp (disch := omega) only [nI_eq] at c15
          subst c15
          refine x_bipush (v := nI 117) dX5_letterOf_18 (by decide) ?_
          refine x_goto (tgt := 34) dX5_letterOf_20 (by decide) ?_
          refine x_iret dX5_letterOf_34 rfl rfl ?_
          first
            | exact hq
            | (rw [show ltV 0 k = -1 from if_neg (by show ¬ k < 3; omega)] at hq; exact hq)
      · simp (disch := omega) only [nI_z] at c5
        subst c5
        refine x_bipush (v := nI 111) dX5_letterOf_8 (by decide) ?_
        refine x_goto (tgt := 34) dX5_letterOf_10 (by decide) ?_
        refine x_iret dX5_letterOf_34 rfl rfl ?_
        first
          | exact hq
          | (rw [show ltV 0 k = -1 from if_neg (by show ¬ k < 3; omega)] at hq; exact hq)
  · refine x_iload_n dX5_letterOf_0 rfl ?_
    refine x_if_ne (tgt := 35) dX5_letterOf_1 (by decide) (fun c1 => ?_) (fun c1 => ?_)
    · refine x_iload_n dX5_letterOf_35 rfl ?_
      refine x_iconst (v := nI 1) dX5_letterOf_36 (by decide) ?_
      refine x_icmp_ne (tgt := 71) dX5_letterOf_37 (by decide) (fun c37 => ?_) (fun c37 => ?_)
      · exact absurd rfl c37
      · refine x_iload_n dX5_letterOf_40 rfl ?_
        refine x_if_ne (tgt := 49) dX5_letterOf_41 (by decide) (fun c41 => ?_) (fun c41 => ?_)
        · simp (disch := omega) only [nI_z] at c41
          refine x_iload_n dX5_letterOf_49 rfl ?_
          refine x_iconst (v := nI 1) dX5_letterOf_50 (by decide) ?_
          refine x_icmp_ne (tgt := 59) dX5_letterOf_51 (by decide) (fun c51 => ?_) (fun c51 => ?_)
          · simp (disch := omega) only [nI_eq] at c51
            refine x_iload_n dX5_letterOf_59 rfl ?_
            refine x_iconst (v := nI 2) dX5_letterOf_60 (by decide) ?_
            refine x_icmp_ne (tgt := 69) dX5_letterOf_61 (by decide) (fun c61 => ?_) (fun c61 => ?_)
            · simp (disch := omega) only [nI_eq] at c61
              refine x_iconst (v := (-1)) dX5_letterOf_69 (by decide) ?_
              refine x_iret dX5_letterOf_70 rfl rfl ?_
              first
                | exact hq
                | (rw [show ltV 1 k = -1 from if_neg (by show ¬ k < 3; omega)] at hq; exact hq)
            · simp (disch := omega) only [nI_eq] at c61
              subst c61
              refine x_bipush (v := nI 119) dX5_letterOf_64 (by decide) ?_
              refine x_goto (tgt := 70) dX5_letterOf_66 (by decide) ?_
              refine x_iret dX5_letterOf_70 rfl rfl ?_
              first
                | exact hq
                | (rw [show ltV 1 k = -1 from if_neg (by show ¬ k < 3; omega)] at hq; exact hq)
          · simp (disch := omega) only [nI_eq] at c51
            subst c51
            refine x_bipush (v := nI 111) dX5_letterOf_54 (by decide) ?_
            refine x_goto (tgt := 70) dX5_letterOf_56 (by decide) ?_
            refine x_iret dX5_letterOf_70 rfl rfl ?_
            first
              | exact hq
              | (rw [show ltV 1 k = -1 from if_neg (by show ¬ k < 3; omega)] at hq; exact hq)
        · simp (disch := omega) only [nI_z] at c41
          subst c41
          refine x_bipush (v := nI 108) dX5_letterOf_44 (by decide) ?_
          refine x_goto (tgt := 70) dX5_letterOf_46 (by decide) ?_
          refine x_iret dX5_letterOf_70 rfl rfl ?_
          first
            | exact hq
            | (rw [show ltV 1 k = -1 from if_neg (by show ¬ k < 3; omega)] at hq; exact hq)
    · exact absurd c1 (by decide)
  · refine x_iload_n dX5_letterOf_0 rfl ?_
    refine x_if_ne (tgt := 35) dX5_letterOf_1 (by decide) (fun c1 => ?_) (fun c1 => ?_)
    · refine x_iload_n dX5_letterOf_35 rfl ?_
      refine x_iconst (v := nI 1) dX5_letterOf_36 (by decide) ?_
      refine x_icmp_ne (tgt := 71) dX5_letterOf_37 (by decide) (fun c37 => ?_) (fun c37 => ?_)
      · refine x_iload_n dX5_letterOf_71 rfl ?_
        refine x_iconst (v := nI 2) dX5_letterOf_72 (by decide) ?_
        refine x_icmp_ne (tgt := 112) dX5_letterOf_73 (by decide) (fun c73 => ?_) (fun c73 => ?_)
        · exact absurd rfl c73
        · refine x_iload_n dX5_letterOf_76 rfl ?_
          refine x_if_ne (tgt := 85) dX5_letterOf_77 (by decide) (fun c77 => ?_) (fun c77 => ?_)
          · simp (disch := omega) only [nI_z] at c77
            refine x_iload_n dX5_letterOf_85 rfl ?_
            refine x_iconst (v := nI 1) dX5_letterOf_86 (by decide) ?_
            refine x_icmp_ne (tgt := 95) dX5_letterOf_87 (by decide) (fun c87 => ?_) (fun c87 => ?_)
            · simp (disch := omega) only [nI_eq] at c87
              refine x_iload_n dX5_letterOf_95 rfl ?_
              refine x_iconst (v := nI 2) dX5_letterOf_96 (by decide) ?_
              refine x_icmp_eq (tgt := 105) dX5_letterOf_97 (by decide) (fun c97 => ?_) (fun c97 => ?_)
              · simp (disch := omega) only [nI_eq] at c97
                subst c97
                refine x_bipush (v := nI 108) dX5_letterOf_105 (by decide) ?_
                refine x_goto (tgt := 111) dX5_letterOf_107 (by decide) ?_
                refine x_iret dX5_letterOf_111 rfl rfl ?_
                first
                  | exact hq
                  | (rw [show ltV 2 k = -1 from if_neg (by show ¬ k < 4; omega)] at hq; exact hq)
              · simp (disch := omega) only [nI_eq] at c97
                refine x_iload_n dX5_letterOf_100 rfl ?_
                refine x_iconst (v := nI 3) dX5_letterOf_101 (by decide) ?_
                refine x_icmp_ne (tgt := 110) dX5_letterOf_102 (by decide) (fun c102 => ?_) (fun c102 => ?_)
                · simp (disch := omega) only [nI_eq] at c102
                  refine x_iconst (v := (-1)) dX5_letterOf_110 (by decide) ?_
                  refine x_iret dX5_letterOf_111 rfl rfl ?_
                  first
                    | exact hq
                    | (rw [show ltV 2 k = -1 from if_neg (by show ¬ k < 4; omega)] at hq; exact hq)
                · simp (disch := omega) only [nI_eq] at c102
                  subst c102
                  refine x_bipush (v := nI 108) dX5_letterOf_105 (by decide) ?_
                  refine x_goto (tgt := 111) dX5_letterOf_107 (by decide) ?_
                  refine x_iret dX5_letterOf_111 rfl rfl ?_
                  first
                    | exact hq
                    | (rw [show ltV 2 k = -1 from if_neg (by show ¬ k < 4; omega)] at hq; exact hq)
            · simp (disch := omega) only [nI_eq] at c87
              subst c87
              refine x_bipush (v := nI 117) dX5_letterOf_90 (by decide) ?_
              refine x_goto (tgt := 111) dX5_letterOf_92 (by decide) ?_
              refine x_iret dX5_letterOf_111 rfl rfl ?_
              first
                | exact hq
                | (rw [show ltV 2 k = -1 from if_neg (by show ¬ k < 4; omega)] at hq; exact hq)
          · simp (disch := omega) only [nI_z] at c77
            subst c77
            refine x_bipush (v := nI 102) dX5_letterOf_80 (by decide) ?_
            refine x_goto (tgt := 111) dX5_letterOf_82 (by decide) ?_
            refine x_iret dX5_letterOf_111 rfl rfl ?_
            first
              | exact hq
              | (rw [show ltV 2 k = -1 from if_neg (by show ¬ k < 4; omega)] at hq; exact hq)
      · exact absurd c37 (by decide)
    · exact absurd c1 (by decide)
  · refine x_iload_n dX5_letterOf_0 rfl ?_
    refine x_if_ne (tgt := 35) dX5_letterOf_1 (by decide) (fun c1 => ?_) (fun c1 => ?_)
    · refine x_iload_n dX5_letterOf_35 rfl ?_
      refine x_iconst (v := nI 1) dX5_letterOf_36 (by decide) ?_
      refine x_icmp_ne (tgt := 71) dX5_letterOf_37 (by decide) (fun c37 => ?_) (fun c37 => ?_)
      · refine x_iload_n dX5_letterOf_71 rfl ?_
        refine x_iconst (v := nI 2) dX5_letterOf_72 (by decide) ?_
        refine x_icmp_ne (tgt := 112) dX5_letterOf_73 (by decide) (fun c73 => ?_) (fun c73 => ?_)
        · refine x_iload_n dX5_letterOf_112 rfl ?_
          refine x_if_ne (tgt := 121) dX5_letterOf_113 (by decide) (fun c113 => ?_) (fun c113 => ?_)
          · simp (disch := omega) only [nI_z] at c113
            refine x_iload_n dX5_letterOf_121 rfl ?_
            refine x_iconst (v := nI 1) dX5_letterOf_122 (by decide) ?_
            refine x_icmp_ne (tgt := 131) dX5_letterOf_123 (by decide) (fun c123 => ?_) (fun c123 => ?_)
            · simp (disch := omega) only [nI_eq] at c123
              refine x_iconst (v := (-1)) dX5_letterOf_131 (by decide) ?_
              refine x_iret dX5_letterOf_132 rfl rfl ?_
              first
                | exact hq
                | (rw [show ltV 3 k = -1 from if_neg (by show ¬ k < 2; omega)] at hq; exact hq)
            · simp (disch := omega) only [nI_eq] at c123
              subst c123
              refine x_bipush (v := nI 107) dX5_letterOf_126 (by decide) ?_
              refine x_goto (tgt := 132) dX5_letterOf_128 (by decide) ?_
              refine x_iret dX5_letterOf_132 rfl rfl ?_
              first
                | exact hq
                | (rw [show ltV 3 k = -1 from if_neg (by show ¬ k < 2; omega)] at hq; exact hq)
          · simp (disch := omega) only [nI_z] at c113
            subst c113
            refine x_bipush (v := nI 111) dX5_letterOf_116 (by decide) ?_
            refine x_goto (tgt := 132) dX5_letterOf_118 (by decide) ?_
            refine x_iret dX5_letterOf_132 rfl rfl ?_
            first
              | exact hq
              | (rw [show ltV 3 k = -1 from if_neg (by show ¬ k < 2; omega)] at hq; exact hq)
        · exact absurd c73 (by decide)
      · exact absurd c37 (by decide)
    · exact absurd c1 (by decide)

theorem r_wordOf {G : GT} {C : AH} {Q : QT} {X : XT} {m j : Nat} {ρ : Rw} (hO : GO G) (hM : MdS C m) (hV : Vr (gI C) (m + 4) ρ) (hj : j < 8) (h4 : ρ (bi j 0) ≤ 400) (h5 : ρ (bi j 1) ≤ 400) (h6 : ρ (bi j 2) ≤ 400) (h7 : ρ (bi j 6) ≤ 1) (hq : Q (some (.int (nI (wdi ρ j - 4)))) C) : Mt G M_X5_wordOf [.ref m, .int (nI j)] C Q X := by
  refine Mt_of (by decide) (Nat.le_of_ble_eq_true rfl) ?_
  obtain ⟨hm0, ⟨g1, g6, g7, g8, g9, g10, g12, g13, g14, g15, g16, g17, g18⟩, k1, k2, k3, k4, k5, k6, k7, k8, k9, k10, k11, k12, k13, hmz⟩ := id hM
  have hA := k4
  refine x_aload_n dX5_wordOf_0 rfl ?_
  refine x_get 7 hO dX5_wordOf_1 f_X5_19 (by first | (simp only [gK_wI]; assumption) | assumption) ⟨by decide, by decide⟩ (v := .ref (m + 4)) (congrArg va_rf g8) ?_
  refine x_iload_n dX5_wordOf_4 rfl ?_
  refine x_bipush (v := nI 6) dX5_wordOf_5 (by decide) ?_
  refine x_callS (As := [_, _]) hO dX5_wordOf_7 o_X5_busAt s_X5_busAt l_X5_67 ⟨by decide, by decide⟩ ⟨by decide, by decide⟩ rfl rfl (Nat.le_of_ble_eq_true rfl) (r_busAt hO ?_)
  dsimp only [Option.toList, List.cons_append, List.nil_append]
  refine x_row (bi j 6) hO dX5_wordOf_10 hA hV rfl (by simp only [bi]; omega) ?_
  refine x_iconst (v := nI 1) dX5_wordOf_11 (by decide) ?_
  refine x_icmp_ne (tgt := 19) dX5_wordOf_12 (by decide) (fun c12 => ?_) (fun c12 => ?_)
  · simp (disch := omega) only [nI_eq] at c12
    refine x_aload_n dX5_wordOf_19 rfl ?_
    refine x_get 7 hO dX5_wordOf_20 f_X5_19 (by first | (simp only [gK_wI]; assumption) | assumption) ⟨by decide, by decide⟩ (v := .ref (m + 4)) (congrArg va_rf g8) ?_
    refine x_iload_n dX5_wordOf_23 rfl ?_
    refine x_callS (As := [_, _]) hO dX5_wordOf_24 o_X5_isLow s_X5_isLow l_X5_71 ⟨by decide, by decide⟩ ⟨by decide, by decide⟩ rfl rfl (Nat.le_of_ble_eq_true rfl) (r_isLow hO k4 hV hj ⟨by omega, by omega, by omega⟩ (fun r24 hr24 => ?_))
    dsimp only [Option.toList, List.cons_append, List.nil_append]
    refine x_if_eq (tgt := 34) dX5_wordOf_27 (by decide) (fun c27 => ?_) (fun c27 => ?_)
    · have p24 := (ite01 hr24).1 c27
      refine x_aload_n dX5_wordOf_34 rfl ?_
      refine x_get 7 hO dX5_wordOf_35 f_X5_19 (by first | (simp only [gK_wI]; assumption) | assumption) ⟨by decide, by decide⟩ (v := .ref (m + 4)) (congrArg va_rf g8) ?_
      refine x_iload_n dX5_wordOf_38 rfl ?_
      refine x_iconst (v := nI 1) dX5_wordOf_39 (by decide) ?_
      refine x_callS (As := [_, _]) hO dX5_wordOf_40 o_X5_busAt s_X5_busAt l_X5_67 ⟨by decide, by decide⟩ ⟨by decide, by decide⟩ rfl rfl (Nat.le_of_ble_eq_true rfl) (r_busAt hO ?_)
      dsimp only [Option.toList, List.cons_append, List.nil_append]
      refine x_row (bi j 1) hO dX5_wordOf_43 hA hV rfl (by simp only [bi]; omega) ?_
      refine x_aload_n dX5_wordOf_44 rfl ?_
      refine x_get 7 hO dX5_wordOf_45 f_X5_19 (by first | (simp only [gK_wI]; assumption) | assumption) ⟨by decide, by decide⟩ (v := .ref (m + 4)) (congrArg va_rf g8) ?_
      refine x_iload_n dX5_wordOf_48 rfl ?_
      refine x_iconst (v := nI 0) dX5_wordOf_49 (by decide) ?_
      refine x_callS (As := [_, _]) hO dX5_wordOf_50 o_X5_busAt s_X5_busAt l_X5_67 ⟨by decide, by decide⟩ ⟨by decide, by decide⟩ rfl rfl (Nat.le_of_ble_eq_true rfl) (r_busAt hO ?_)
      dsimp only [Option.toList, List.cons_append, List.nil_append]
      refine x_row (bi j 0) hO dX5_wordOf_53 hA hV rfl (by simp only [bi]; omega) ?_
      refine x_icmp_ne (tgt := 61) dX5_wordOf_54 (by decide) (fun c54 => ?_) (fun c54 => ?_)
      · simp (disch := omega) only [nI_eq] at c54
        have e : wdi ρ j - 4 = 3 := by
          rw [show wdi ρ j = 7 from (if_neg c12).trans ((if_neg (fun q => p24 ⟨by omega, q⟩)).trans (if_neg c54))]
        rw [e] at hq
        refine x_iconst (v := nI 3) dX5_wordOf_61 (by decide) ?_
        refine x_iret dX5_wordOf_62 rfl rfl ?_
        exact hq
      · simp (disch := omega) only [nI_eq] at c54
        have e : wdi ρ j - 4 = 2 := by
          rw [show wdi ρ j = 6 from (if_neg c12).trans ((if_neg (fun q => p24 ⟨by omega, q⟩)).trans (if_pos (by omega)))]
        rw [e] at hq
        refine x_iconst (v := nI 2) dX5_wordOf_57 (by decide) ?_
        refine x_goto (tgt := 62) dX5_wordOf_58 (by decide) ?_
        refine x_iret dX5_wordOf_62 rfl rfl ?_
        exact hq
    · have p24 := (ite01 hr24).2 c27
      have e : wdi ρ j - 4 = 1 := by
        rw [show wdi ρ j = 5 from (if_neg c12).trans (if_pos p24.2)]
      rw [e] at hq
      refine x_iconst (v := nI 1) dX5_wordOf_30 (by decide) ?_
      refine x_goto (tgt := 62) dX5_wordOf_31 (by decide) ?_
      refine x_iret dX5_wordOf_62 rfl rfl ?_
      exact hq
  · simp (disch := omega) only [nI_eq] at c12
    have e : wdi ρ j - 4 = 0 := by
      rw [show wdi ρ j = 4 from if_pos c12]
    rw [e] at hq
    refine x_iconst (v := nI 0) dX5_wordOf_15 (by decide) ?_
    refine x_goto (tgt := 62) dX5_wordOf_16 (by decide) ?_
    refine x_iret dX5_wordOf_62 rfl rfl ?_
    exact hq

