/-! the text: signs and digits *)-/
def TxS (C : AH) (t : Nat) : Prop := gK C t = 5 ∧ gR C t 0 = some (t + 1) ∧ gR C t 4 = some (t + 2) ∧ gK C (t + 1) = 22 ∧ gN C (t + 1) = 120 ∧ gK C (t + 2) = 20 ∧ gN C (t + 2) = 5
def TxV (f : Nat → Nat → Int32) (t : Nat) (S : Nat → Nat) (n : Nat) : Prop := f t 1 = nI n ∧ n ≤ 120 ∧ ∀ i, i < n → f (t + 1) i = nI (S i) ∧ S i < 256
def cI (S : Nat → Nat) (n p : Nat) : Int32 := if p < n then nI (S p) else -1
def dI (S : Nat → Nat) (n p : Nat) : Int32 := if isD (ch S n p) then nI (ch S n p - 48) else -1
theorem cI_eq {S : Nat → Nat} {n p c : Nat} (hS : ∀ i, i < n → S i < 256) (hc : c < 256) : cI S n p = nI c ↔ ch S n p = c := by
  unfold cI ch
  by_cases h : p < n
  · rw [if_pos h, if_pos h]
    exact nI_eq (by have := hS p h; omega) (by omega)
  · rw [if_neg h, if_neg h]
    exact ⟨fun q => absurd q.symm (nI_m1 (by omega)), fun q => by omega⟩

theorem s_signAt {G : GT} {C : AH} {Q : QT} {X : XT} {t n : Nat} {S : Nat → Nat} {p : Nat} (hO : GO G) (hS : TxS C t) (hV : TxV (gI C) t S n) (hp : p < 1000) (hq : Q (some (.int (cI S n p))) C) : Mt G M_X3_signAt [.ref t, .int (nI p)] C Q X := by
  refine Mt_of (by decide) (Nat.le_of_ble_eq_true rfl) ?_
  obtain ⟨k0, g0, g4, k1, n1, k2, n2⟩ := id hS
  obtain ⟨v1, v2, v3⟩ := id hV
  have f0 : fV C 5 t 0 = .ref (t + 1) := congrArg va_rf g0
  have f4 : fV C 5 t 4 = .ref (t + 2) := congrArg va_rf g4
  have f1 : fV C 5 t 1 = .int (nI n) := congrArg Value.int v1
  refine x_iload_n dX3_signAt_0 rfl ?_
  refine x_if_lt (tgt := 12) dX3_signAt_1 (by decide) (fun c1 => ?_) (fun c1 => ?_)
  · exact absurd c1 (nI_pos (by omega))
  · refine x_iload_n dX3_signAt_4 rfl ?_
    refine x_aload_n dX3_signAt_5 rfl ?_
    refine x_get 5 hO dX3_signAt_6 f_X3_19 (by first | (simp only [gK_wI]; assumption) | assumption) ⟨by decide, by decide⟩ (v := .int (nI n)) f1 ?_
    refine x_icmp_lt (tgt := 14) dX3_signAt_9 (by decide) (fun c9 => ?_) (fun c9 => ?_)
    · simp (disch := omega) only [nI_ltI] at c9
      refine x_aload_n dX3_signAt_14 rfl ?_
      refine x_get 5 hO dX3_signAt_15 f_X3_9 (by first | (simp only [gK_wI]; assumption) | assumption) ⟨by decide, by decide⟩ (v := .ref (t + 1)) f0 ?_
      refine x_iload_n dX3_signAt_18 rfl ?_
      refine x_cald _ _ hO dX3_signAt_19 (by first | (simp only [gK_wI]; assumption) | assumption) rfl (by first | (simp only [gN_wI]; assumption) | assumption) (by omega) (by decide) ?_
      refine x_iret dX3_signAt_20 rfl rfl ?_
      rw [show cI S n p = nI (S p) from if_pos (by omega), ← (v3 p (by omega)).1] at hq
      exact hq
    · simp (disch := omega) only [nI_ltI] at c9
      refine x_iconst (v := (-1)) dX3_signAt_12 (by decide) ?_
      refine x_iret dX3_signAt_13 rfl rfl ?_
      rw [show cI S n p = -1 from if_neg (by omega)] at hq
      exact hq
theorem s_readSign {G : GT} {C : AH} {Q : QT} {X : XT} {t n : Nat} {S : Nat → Nat} {p c : Nat} (hO : GO G) (hS : TxS C t) (hV : TxV (gI C) t S n) (hp : p < 1000) (ha : gI C t 2 = nI p) (hc : c < 256) (h1 : ch S n p = c → Q (some (.int 1)) (wI C (up2 (gI C) t 2 (nI (p + 1))))) (h0 : ch S n p ≠ c → Q (some (.int 0)) C) : Mt G M_X3_readSign [.ref t, .int (nI c)] C Q X := by
  refine Mt_of (by decide) (Nat.le_of_ble_eq_true rfl) ?_
  obtain ⟨k0, g0, g4, k1, n1, k2, n2⟩ := id hS
  obtain ⟨v1, v2, v3⟩ := id hV
  have f0 : fV C 5 t 0 = .ref (t + 1) := congrArg va_rf g0
  have f4 : fV C 5 t 4 = .ref (t + 2) := congrArg va_rf g4
  have f1 : fV C 5 t 1 = .int (nI n) := congrArg Value.int v1
  have f2 : fV C 5 t 2 = .int (nI p) := congrArg Value.int ha
  have hce := cI_eq (S := S) (n := n) (p := p) (fun i hi => (v3 i hi).2) hc
  refine x_aload_n dX3_readSign_0 rfl ?_
  refine x_aload_n dX3_readSign_1 rfl ?_
  refine x_get 5 hO dX3_readSign_2 f_X3_27 (by first | (simp only [gK_wI]; assumption) | assumption) ⟨by decide, by decide⟩ (v := .int (nI p)) f2 ?_
  refine x_callV (As := [_]) 5 hO dX3_readSign_5 o_X3_signAt v_X3_signAt l_X3_61 ⟨by decide, by decide⟩ (by first | (simp only [gK_wI]; assumption) | assumption) ⟨by decide, by decide⟩ rfl ⟨by decide, by decide⟩ rfl rfl (Nat.le_of_ble_eq_true rfl) (s_signAt hO hS hV hp ?_)
  dsimp only [Option.toList, List.cons_append, List.nil_append]
  refine x_iload_n dX3_readSign_8 rfl ?_
  refine x_icmp_eq (tgt := 14) dX3_readSign_9 (by decide) (fun c9 => ?_) (fun c9 => ?_)
  · refine x_aload_n dX3_readSign_14 rfl ?_
    refine x_dup dX3_readSign_15 rfl ?_
    refine x_get 5 hO dX3_readSign_16 f_X3_27 (by first | (simp only [gK_wI]; assumption) | assumption) ⟨by decide, by decide⟩ (v := .int (nI p)) f2 ?_
    refine x_iconst (v := nI 1) dX3_readSign_19 (by decide) ?_
    refine x_iadd dX3_readSign_20 ?_
    refine x_putI 5 hO dX3_readSign_21 f_X3_27 (fw_5_2 _) (by first | (simp only [gK_wI]; assumption) | assumption) ⟨by decide, by decide⟩ rfl rfl ?_
    refine x_iconst (v := nI 1) dX3_readSign_24 (by decide) ?_
    refine x_iret dX3_readSign_25 rfl (by first | rfl | assumption) ?_
    rw [nI_add]
    exact h1 (hce.mp c9)
  · refine x_iconst (v := nI 0) dX3_readSign_12 (by decide) ?_
    refine x_iret dX3_readSign_13 rfl (by first | rfl | assumption) ?_
    exact h0 fun q => c9 (hce.mpr q)
theorem s_digitAt {G : GT} {C : AH} {Q : QT} {X : XT} {t n : Nat} {S : Nat → Nat} {p : Nat} (hO : GO G) (hS : TxS C t) (hV : TxV (gI C) t S n) (hp : p < 1000) (hq : Q (some (.int (dI S n p))) C) : Mt G M_X3_digitAt [.ref t, .int (nI p)] C Q X := by
  refine Mt_of (by decide) (Nat.le_of_ble_eq_true rfl) ?_
  obtain ⟨k0, g0, g4, k1, n1, k2, n2⟩ := id hS
  obtain ⟨v1, v2, v3⟩ := id hV
  have f0 : fV C 5 t 0 = .ref (t + 1) := congrArg va_rf g0
  have f4 : fV C 5 t 4 = .ref (t + 2) := congrArg va_rf g4
  have f1 : fV C 5 t 1 = .int (nI n) := congrArg Value.int v1
  have hin : (nI 48 ≤ cI S n p ∧ cI S n p ≤ nI 57) ↔ isD (ch S n p) := by
    unfold cI ch isD
    by_cases h : p < n
    · rw [if_pos h, if_pos h]
      have := (v3 p h).2
      rw [nI_leI (by omega) (by omega), nI_leI (by omega) (by omega)]
    · rw [if_neg h, if_neg h]
      exact ⟨fun q => absurd q.1 (by decide), fun q => by omega⟩
  refine x_aload_n dX3_digitAt_0 rfl ?_
  refine x_iload_n dX3_digitAt_1 rfl ?_
  refine x_callV (As := [_]) 5 hO dX3_digitAt_2 o_X3_signAt v_X3_signAt l_X3_61 ⟨by decide, by decide⟩ (by first | (simp only [gK_wI]; assumption) | assumption) ⟨by decide, by decide⟩ rfl ⟨by decide, by decide⟩ rfl rfl (Nat.le_of_ble_eq_true rfl) (s_signAt hO hS hV hp ?_)
  dsimp only [Option.toList, List.cons_append, List.nil_append]
  refine x_istore_n dX3_digitAt_5 (by decide) ?_
  refine x_iload_n dX3_digitAt_6 rfl ?_
  refine x_bipush (v := nI 48) dX3_digitAt_7 (by decide) ?_
  refine x_bipush (v := nI 57) dX3_digitAt_9 (by decide) ?_
  refine x_callSN (As := [_, _, _]) hO dX3_digitAt_11 o_X4_isWithin s_X4_isWithin (n_X3_96 hO) ⟨by decide, by decide⟩ ⟨by decide, by decide⟩ rfl rfl (Nat.le_of_ble_eq_true rfl) (s_isWithin hO (fun r11 hr11 => ?_))
  dsimp only [Option.toList, List.cons_append, List.nil_append]
  refine x_if_eq (tgt := 24) dX3_digitAt_14 (by decide) (fun c14 => ?_) (fun c14 => ?_)
  · have p11 := (ite01 hr11).1 c14
    rw [hin] at p11
    refine x_iconst (v := (-1)) dX3_digitAt_24 (by decide) ?_
    have e3 : dI S n p = -1 := if_neg p11
    rw [e3] at hq
    refine x_iret dX3_digitAt_25 rfl rfl ?_
    exact hq
  · have p11 := (ite01 hr11).2 c14
    rw [hin] at p11
    refine x_iload_n dX3_digitAt_17 rfl ?_
    refine x_bipush (v := nI 48) dX3_digitAt_18 (by decide) ?_
    refine x_isub dX3_digitAt_20 ?_
    refine x_goto (tgt := 25) dX3_digitAt_21 (by decide) ?_
    have hd : isD (ch S n p) := p11
    have hlt : p < n := ch_lt (S := S) rfl (by unfold isD at hd; omega)
    have e1 : cI S n p = nI (S p) := if_pos hlt
    have e2 : ch S n p = S p := if_pos hlt
    have e3 : dI S n p = nI (ch S n p - 48) := if_pos hd
    unfold isD at hd
    rw [e1]
    rw [e3, e2] at hq
    rw [e2] at hd
    rw [pk_sub hd.1]
    refine x_iret dX3_digitAt_25 rfl rfl ?_
    exact hq

theorem s_beginsNumber {G : GT} {C : AH} {Q : QT} {X : XT} {b lo hi : Nat} (hO : GO G) (hb : b < 100000) (hlo : lo < 1000) (hhi : hi < 1000) (h1 : Beg b lo hi → Q (some (.int 1)) C) (h0 : ¬ Beg b lo hi → Q (some (.int 0)) C) : Mt G M_X3_beginsNumber [.int (nI b), .int (nI lo), .int (nI hi)] C Q X := by
  refine Mt_of (by decide) (Nat.le_of_ble_eq_true rfl) ?_
  by_cases hb0 : b = 0
  · subst hb0
    refine x_iload_n dX3_beginsNumber_0 rfl ?_
    refine x_if_ne (tgt := 14) dX3_beginsNumber_1 (by decide) (fun c1 => ?_) (fun c1 => ?_)
    · exact absurd (show nI 0 = 0 from nI_0) c1
    · refine x_iload_n dX3_beginsNumber_4 rfl ?_
      refine x_if_gt (tgt := 12) dX3_beginsNumber_5 (by decide) (fun c5 => ?_) (fun c5 => ?_)
      · rw [← nI_0] at c5
        simp (disch := omega) only [nI_ltI] at c5
        refine x_iconst (v := nI 0) dX3_beginsNumber_12 (by decide) ?_
        refine x_iret dX3_beginsNumber_13 rfl (by first | rfl | assumption) ?_
        first | exact h1 (Or.inl ⟨rfl, by omega⟩) | exact h0 (fun q => by omega)
      · rw [← nI_0] at c5
        simp (disch := omega) only [nI_ltI] at c5
        refine x_iconst (v := nI 1) dX3_beginsNumber_8 (by decide) ?_
        refine x_goto (tgt := 13) dX3_beginsNumber_9 (by decide) ?_
        refine x_iret dX3_beginsNumber_13 rfl (by first | rfl | assumption) ?_
        first | exact h1 (Or.inl ⟨rfl, by omega⟩) | exact h0 (fun q => by omega)
  have hb0 : 0 < b := by omega
  unfold Beg at h1 h0
  have st3 : ¬ (lo ≤ b ∧ b ≤ hi) → ¬ (10 * b ≤ hi ∧ lo ≤ 10 * b + 9) → ¬ (100 * b ≤ hi ∧ lo ≤ 100 * b + 99) → Ex G M_X3_beginsNumber Q X (mC M_X3_beginsNumber) (mS M_X3_beginsNumber) 22 [(5, .int (nI 3))] [] C := by
    intro n0 n1 n2
    refine x_iload dX3_beginsNumber_22 rfl ?_
    refine x_iconst (v := nI 3) dX3_beginsNumber_24 (by decide) ?_
    refine x_icmp_ge (tgt := 62) dX3_beginsNumber_25 (by decide) (fun c25 => ?_) (fun c25 => ?_)
    · refine x_iconst (v := nI 0) dX3_beginsNumber_62 (by decide) ?_
      refine x_iret dX3_beginsNumber_63 rfl (by first | rfl | assumption) ?_
      exact h0 (by omega)
    · exact absurd (show nI 3 ≤ nI 3 by decide) c25
  have st2 : ¬ (lo ≤ b ∧ b ≤ hi) → ¬ (10 * b ≤ hi ∧ lo ≤ 10 * b + 9) → Ex G M_X3_beginsNumber Q X (mC M_X3_beginsNumber) (mS M_X3_beginsNumber) 22 [(0, .int (nI b)), (1, .int (nI lo)), (2, .int (nI hi)), (3, .int (nI (100 * b))), (4, .int (nI (100 * b + 99))), (5, .int (nI 2))] [] C := by
    intro n0 n1
    refine x_iload dX3_beginsNumber_22 rfl ?_
    refine x_iconst (v := nI 3) dX3_beginsNumber_24 (by decide) ?_
    refine x_icmp_ge (tgt := 62) dX3_beginsNumber_25 (by decide) (fun c25 => ?_) (fun c25 => ?_)
    · exact absurd c25 (by decide)
    · refine x_iload_n dX3_beginsNumber_28 rfl ?_
      refine x_iload_n dX3_beginsNumber_29 rfl ?_
      refine x_icmp_gt (tgt := 62) dX3_beginsNumber_30 (by decide) (fun c30 => ?_) (fun c30 => ?_)
      · simp (disch := omega) only [nI_ltI] at c30
        refine x_iconst (v := nI 0) dX3_beginsNumber_62 (by decide) ?_
        refine x_iret dX3_beginsNumber_63 rfl (by first | rfl | assumption) ?_
        exact h0 (by omega)
      · simp (disch := omega) only [nI_ltI] at c30
        refine x_iload dX3_beginsNumber_33 rfl ?_
        refine x_iload_n dX3_beginsNumber_35 rfl ?_
        refine x_icmp_lt (tgt := 41) dX3_beginsNumber_36 (by decide) (fun c36 => ?_) (fun c36 => ?_)
        · simp (disch := omega) only [nI_ltI] at c36
          refine x_bipush (v := nI 10) dX3_beginsNumber_41 (by decide) ?_
          refine x_iload_n dX3_beginsNumber_43 rfl ?_
          refine x_imul dX3_beginsNumber_44 ?_
          refine x_istore_n dX3_beginsNumber_45 (by decide) ?_
          refine x_bipush (v := nI 10) dX3_beginsNumber_46 (by decide) ?_
          refine x_iload dX3_beginsNumber_48 rfl ?_
          refine x_imul dX3_beginsNumber_50 ?_
          refine x_bipush (v := nI 9) dX3_beginsNumber_51 (by decide) ?_
          refine x_iadd dX3_beginsNumber_53 ?_
          refine x_istore dX3_beginsNumber_54 (by decide) ?_
          refine x_iinc (v := nI 1) dX3_beginsNumber_56 rfl (by decide) (by decide) ?_
          refine x_goto (tgt := 22) dX3_beginsNumber_59 (by decide) ?_
          refine x_ls [(5, .int (nI 3))] ⟨rfl, trivial⟩ ?_
          exact st3 n0 n1 (by omega)
        · simp (disch := omega) only [nI_ltI] at c36
          refine x_iconst (v := nI 1) dX3_beginsNumber_39 (by decide) ?_
          refine x_iret dX3_beginsNumber_40 rfl (by first | rfl | assumption) ?_
          exact h1 (Or.inr ⟨hb0, Or.inr (Or.inr ⟨by omega, by omega⟩)⟩)
  have st1 : ¬ (lo ≤ b ∧ b ≤ hi) → Ex G M_X3_beginsNumber Q X (mC M_X3_beginsNumber) (mS M_X3_beginsNumber) 22 [(0, .int (nI b)), (1, .int (nI lo)), (2, .int (nI hi)), (3, .int (nI (10 * b))), (4, .int (nI (10 * b + 9))), (5, .int (nI 1))] [] C := by
    intro n0
    refine x_iload dX3_beginsNumber_22 rfl ?_
    refine x_iconst (v := nI 3) dX3_beginsNumber_24 (by decide) ?_
    refine x_icmp_ge (tgt := 62) dX3_beginsNumber_25 (by decide) (fun c25 => ?_) (fun c25 => ?_)
    · exact absurd c25 (by decide)
    · refine x_iload_n dX3_beginsNumber_28 rfl ?_
      refine x_iload_n dX3_beginsNumber_29 rfl ?_
      refine x_icmp_gt (tgt := 62) dX3_beginsNumber_30 (by decide) (fun c30 => ?_) (fun c30 => ?_)
      · simp (disch := omega) only [nI_ltI] at c30
        refine x_iconst (v := nI 0) dX3_beginsNumber_62 (by decide) ?_
        refine x_iret dX3_beginsNumber_63 rfl (by first | rfl | assumption) ?_
        exact h0 (by omega)
      · simp (disch := omega) only [nI_ltI] at c30
        refine x_iload dX3_beginsNumber_33 rfl ?_
        refine x_iload_n dX3_beginsNumber_35 rfl ?_
        refine x_icmp_lt (tgt := 41) dX3_beginsNumber_36 (by decide) (fun c36 => ?_) (fun c36 => ?_)
        · simp (disch := omega) only [nI_ltI] at c36
          refine x_bipush (v := nI 10) dX3_beginsNumber_41 (by decide) ?_
          refine x_iload_n dX3_beginsNumber_43 rfl ?_
          refine x_imul dX3_beginsNumber_44 ?_
          refine x_istore_n dX3_beginsNumber_45 (by decide) ?_
          refine x_bipush (v := nI 10) dX3_beginsNumber_46 (by decide) ?_
          refine x_iload dX3_beginsNumber_48 rfl ?_
          refine x_imul dX3_beginsNumber_50 ?_
          refine x_bipush (v := nI 9) dX3_beginsNumber_51 (by decide) ?_
          refine x_iadd dX3_beginsNumber_53 ?_
          refine x_istore dX3_beginsNumber_54 (by decide) ?_
          refine x_iinc (v := nI 1) dX3_beginsNumber_56 rfl (by decide) (by decide) ?_
          refine x_goto (tgt := 22) dX3_beginsNumber_59 (by decide) ?_
          simp only [pk_mul, nI_add]
          refine x_ls [(0, .int (nI b)), (1, .int (nI lo)), (2, .int (nI hi)), (3, .int (nI (100 * b))), (4, .int (nI (100 * b + 99))), (5, .int (nI 2))] ⟨rfl, rfl, rfl, (by rw [show 100 * b = 10 * (10 * b) by omega]; rfl), (by rw [show 100 * b + 99 = 10 * (10 * b + 9) + 9 by omega]; rfl), rfl, trivial⟩ ?_
          exact st2 n0 (by omega)
        · simp (disch := omega) only [nI_ltI] at c36
          refine x_iconst (v := nI 1) dX3_beginsNumber_39 (by decide) ?_
          refine x_iret dX3_beginsNumber_40 rfl (by first | rfl | assumption) ?_
          exact h1 (Or.inr ⟨hb0, Or.inr (Or.inl ⟨by omega, by omega⟩)⟩)
  have st0 : Ex G M_X3_beginsNumber Q X (mC M_X3_beginsNumber) (mS M_X3_beginsNumber) 22 [(0, .int (nI b)), (1, .int (nI lo)), (2, .int (nI hi)), (3, .int (nI (b))), (4, .int (nI (b))), (5, .int (nI 0))] [] C := by
    skip
    refine x_iload dX3_beginsNumber_22 rfl ?_
    refine x_iconst (v := nI 3) dX3_beginsNumber_24 (by decide) ?_
    refine x_icmp_ge (tgt := 62) dX3_beginsNumber_25 (by decide) (fun c25 => ?_) (fun c25 => ?_)
    · exact absurd c25 (by decide)
    · refine x_iload_n dX3_beginsNumber_28 rfl ?_
      refine x_iload_n dX3_beginsNumber_29 rfl ?_
      refine x_icmp_gt (tgt := 62) dX3_beginsNumber_30 (by decide) (fun c30 => ?_) (fun c30 => ?_)
      · simp (disch := omega) only [nI_ltI] at c30
        refine x_iconst (v := nI 0) dX3_beginsNumber_62 (by decide) ?_
        refine x_iret dX3_beginsNumber_63 rfl (by first | rfl | assumption) ?_
        exact h0 (by omega)
      · simp (disch := omega) only [nI_ltI] at c30
        refine x_iload dX3_beginsNumber_33 rfl ?_
        refine x_iload_n dX3_beginsNumber_35 rfl ?_
        refine x_icmp_lt (tgt := 41) dX3_beginsNumber_36 (by decide) (fun c36 => ?_) (fun c36 => ?_)
        · simp (disch := omega) only [nI_ltI] at c36
          refine x_bipush (v := nI 10) dX3_beginsNumber_41 (by decide) ?_
          refine x_iload_n dX3_beginsNumber_43 rfl ?_
          refine x_imul dX3_beginsNumber_44 ?_
          refine x_istore_n dX3_beginsNumber_45 (by decide) ?_
          refine x_bipush (v := nI 10) dX3_beginsNumber_46 (by decide) ?_
          refine x_iload dX3_beginsNumber_48 rfl ?_
          refine x_imul dX3_beginsNumber_50 ?_
          refine x_bipush (v := nI 9) dX3_beginsNumber_51 (by decide) ?_
          refine x_iadd dX3_beginsNumber_53 ?_
          refine x_istore dX3_beginsNumber_54 (by decide) ?_
          refine x_iinc (v := nI 1) dX3_beginsNumber_56 rfl (by decide) (by decide) ?_
          refine x_goto (tgt := 22) dX3_beginsNumber_59 (by decide) ?_
          simp only [pk_mul, nI_add]
          refine x_ls [(0, .int (nI b)), (1, .int (nI lo)), (2, .int (nI hi)), (3, .int (nI (10 * b))), (4, .int (nI (10 * b + 9))), (5, .int (nI 1))] ⟨rfl, rfl, rfl, (by rw [show 10 * b = 10 * (b) by omega]; rfl), (by rw [show 10 * b + 9 = 10 * (b) + 9 by omega]; rfl), rfl, trivial⟩ ?_
          exact st1  (by omega)
        · simp (disch := omega) only [nI_ltI] at c36
          refine x_iconst (v := nI 1) dX3_beginsNumber_39 (by decide) ?_
          refine x_iret dX3_beginsNumber_40 rfl (by first | rfl | assumption) ?_
          exact h1 (Or.inr ⟨hb0, Or.inl ⟨by omega, by omega⟩⟩)
  refine x_iload_n dX3_beginsNumber_0 rfl ?_
  refine x_if_ne (tgt := 14) dX3_beginsNumber_1 (by decide) (fun c1 => ?_) (fun c1 => ?_)
  · refine x_iload_n dX3_beginsNumber_14 rfl ?_
    refine x_istore_n dX3_beginsNumber_15 (by decide) ?_
    refine x_iload_n dX3_beginsNumber_16 rfl ?_
    refine x_istore dX3_beginsNumber_17 (by decide) ?_
    refine x_iconst (v := nI 0) dX3_beginsNumber_19 (by decide) ?_
    refine x_istore dX3_beginsNumber_20 (by decide) ?_
    refine x_ls [(0, .int (nI b)), (1, .int (nI lo)), (2, .int (nI hi)), (3, .int (nI (b))), (4, .int (nI (b))), (5, .int (nI 0))] ⟨rfl, rfl, rfl, rfl, rfl, rfl, trivial⟩ ?_
    exact st0
  · exact absurd c1 (nI_ne0 hb0 (by omega))

theorem s_readDigit {G : GT} {C : AH} {Q : QT} {X : XT} {t n : Nat} {S : Nat → Nat} {p z lo hi : Nat} (hO : GO G) (hS : TxS C t) (hV : TxV (gI C) t S n) (hp : p < 1000) (ha : gI C t 2 = nI p) (hz : z < 10000) (hlo : lo < 1000) (hhi : hi < 1000) (h1 : isD (ch S n p) → Beg (z + (ch S n p - 48)) lo hi → Q (some (.int 1)) (wI C (up2 (gI C) t 2 (nI (p + 1))))) (h0 : ¬ (isD (ch S n p) ∧ Beg (z + (ch S n p - 48)) lo hi) → Q (some (.int 0)) C) : Mt G M_X3_readDigit [.ref t, .int (nI z), .int (nI lo), .int (nI hi)] C Q X := by
  refine Mt_of (by decide) (Nat.le_of_ble_eq_true rfl) ?_
  obtain ⟨k0, g0, g4, k1, n1, k2, n2⟩ := id hS
  obtain ⟨v1, v2, v3⟩ := id hV
  have f0 : fV C 5 t 0 = .ref (t + 1) := congrArg va_rf g0
  have f4 : fV C 5 t 4 = .ref (t + 2) := congrArg va_rf g4
  have f1 : fV C 5 t 1 = .int (nI n) := congrArg Value.int v1
  have f2 : fV C 5 t 2 = .int (nI p) := congrArg Value.int ha
  by_cases hd : isD (ch S n p)
  · have hde : dI S n p = nI (ch S n p - 48) := if_pos hd
    have hdl : ch S n p - 48 < 10 := by unfold isD at hd; omega
    refine x_aload_n dX3_readDigit_0 rfl ?_
    refine x_aload_n dX3_readDigit_1 rfl ?_
    refine x_get 5 hO dX3_readDigit_2 f_X3_27 (by first | (simp only [gK_wI]; assumption) | assumption) ⟨by decide, by decide⟩ (v := .int (nI p)) f2 ?_
    refine x_callV (As := [_]) 5 hO dX3_readDigit_5 o_X3_digitAt v_X3_digitAt l_X3_93 ⟨by decide, by decide⟩ (by first | (simp only [gK_wI]; assumption) | assumption) ⟨by decide, by decide⟩ rfl ⟨by decide, by decide⟩ rfl rfl (Nat.le_of_ble_eq_true rfl) (s_digitAt hO hS hV hp ?_)
    dsimp only [Option.toList, List.cons_append, List.nil_append]
    rw [hde]
    refine x_istore dX3_readDigit_8 (by decide) ?_
    refine x_iload dX3_readDigit_10 rfl ?_
    refine x_iconst (v := (-1)) dX3_readDigit_12 (by decide) ?_
    refine x_icmp_eq (tgt := 28) dX3_readDigit_13 (by decide) (fun c13 => ?_) (fun c13 => ?_)
    · exact absurd c13 (nI_m1 (by omega))
    · refine x_iload_n dX3_readDigit_16 rfl ?_
      refine x_iload dX3_readDigit_17 rfl ?_
      refine x_iadd dX3_readDigit_19 ?_
      refine x_iload_n dX3_readDigit_20 rfl ?_
      refine x_iload_n dX3_readDigit_21 rfl ?_
      rw [nI_add]
      refine x_callS (As := [_, _, _]) hO dX3_readDigit_22 o_X3_beginsNumber s_X3_beginsNumber l_X3_99 ⟨by decide, by decide⟩ ⟨by decide, by decide⟩ rfl rfl (Nat.le_of_ble_eq_true rfl) (s_beginsNumber hO (by omega) hlo hhi (fun hB => ?_) (fun hB => ?_))
      · dsimp only [Option.toList, List.cons_append, List.nil_append]
        refine x_if_ne (tgt := 30) dX3_readDigit_25 (by decide) (fun c25 => ?_) (fun c25 => ?_)
        · refine x_aload_n dX3_readDigit_30 rfl ?_
          refine x_dup dX3_readDigit_31 rfl ?_
          refine x_get 5 hO dX3_readDigit_32 f_X3_27 (by first | (simp only [gK_wI]; assumption) | assumption) ⟨by decide, by decide⟩ (v := .int (nI p)) f2 ?_
          refine x_iconst (v := nI 1) dX3_readDigit_35 (by decide) ?_
          refine x_iadd dX3_readDigit_36 ?_
          refine x_putI 5 hO dX3_readDigit_37 f_X3_27 (fw_5_2 _) (by first | (simp only [gK_wI]; assumption) | assumption) ⟨by decide, by decide⟩ rfl rfl ?_
          refine x_iconst (v := nI 1) dX3_readDigit_40 (by decide) ?_
          refine x_iret dX3_readDigit_41 rfl (by first | rfl | assumption) ?_
          rw [nI_add]
          exact h1 hd hB
        · exact absurd c25 (by decide)
      · dsimp only [Option.toList, List.cons_append, List.nil_append]
        refine x_if_ne (tgt := 30) dX3_readDigit_25 (by decide) (fun c25 => ?_) (fun c25 => ?_)
        · exact absurd rfl c25
        · refine x_iconst (v := nI 0) dX3_readDigit_28 (by decide) ?_
          refine x_iret dX3_readDigit_29 rfl (by first | rfl | assumption) ?_
          exact h0 fun q => hB q.2
  · have hde : dI S n p = -1 := if_neg hd
    refine x_aload_n dX3_readDigit_0 rfl ?_
    refine x_aload_n dX3_readDigit_1 rfl ?_
    refine x_get 5 hO dX3_readDigit_2 f_X3_27 (by first | (simp only [gK_wI]; assumption) | assumption) ⟨by decide, by decide⟩ (v := .int (nI p)) f2 ?_
    refine x_callV (As := [_]) 5 hO dX3_readDigit_5 o_X3_digitAt v_X3_digitAt l_X3_93 ⟨by decide, by decide⟩ (by first | (simp only [gK_wI]; assumption) | assumption) ⟨by decide, by decide⟩ rfl ⟨by decide, by decide⟩ rfl rfl (Nat.le_of_ble_eq_true rfl) (s_digitAt hO hS hV hp ?_)
    dsimp only [Option.toList, List.cons_append, List.nil_append]
    rw [hde]
    refine x_istore dX3_readDigit_8 (by decide) ?_
    refine x_iload dX3_readDigit_10 rfl ?_
    refine x_iconst (v := (-1)) dX3_readDigit_12 (by decide) ?_
    refine x_icmp_eq (tgt := 28) dX3_readDigit_13 (by decide) (fun c13 => ?_) (fun c13 => ?_)
    · refine x_iconst (v := nI 0) dX3_readDigit_28 (by decide) ?_
      refine x_iret dX3_readDigit_29 rfl (by first | rfl | assumption) ?_
      exact h0 fun q => hd q.1
    · exact absurd rfl c13

