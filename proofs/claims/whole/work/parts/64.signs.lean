/-! the reference: the text, sign by sign *)-/
def TM (f : Nat → Nat → Int32) (m : Nat) (S : Nat → Nat) (n p : Nat) (g : Bool) : Prop := f m 2 = nI n ∧ (∀ i, i < n → f (m + 1) i = nI (S i)) ∧ f m 3 = nI p ∧ f m 4 = (if g = true then 1 else 0)
def TF (f h : Nat → Nat → Int32) (m : Nat) : Prop := ∀ a j, ¬ (a = m ∧ (j = 3 ∨ j = 4)) → f a j = h a j
theorem TF_t {f h k : Nat → Nat → Int32} {m : Nat} (a : TF f h m) (b : TF h k m) : TF f k m := fun x j q => (a x j q).trans (b x j q)
theorem TF_r {f : Nat → Nat → Int32} {m : Nat} : TF f f m := fun _ _ _ => rfl
theorem ch_in {S : Nat → Nat} {n p : Nat} (h : p < n) : ch S n p = S p := if_pos h
theorem ch_out {S : Nat → Nat} {n p : Nat} (h : ¬ p < n) : ch S n p = 1000 := if_neg h
theorem r_isNext {G : GT} {C : AH} {Q : QT} {X : XT} {m n p : Nat} {S : Nat → Nat} {g : Bool} {c : Nat} (hO : GO G) (hM : MdS C m) (hT : TM (gI C) m S n p g) (hn : n ≤ 120) (hS : ∀ i, i < n → S i < 256) (hp : p ≤ n) (hc : c < 1000) (hq : ∀ r : Int32, r = (if ch S n p = c then 1 else 0) → Q (some (.int r)) C) : Mt G M_X5_isNext [.ref m, .int (nI c)] C Q X := by
  refine Mt_of (by decide) (Nat.le_of_ble_eq_true rfl) ?_
  obtain ⟨hm0, ⟨g1, g6, g7, g8, g9, g10, g12, g13, g14, g15, g16, g17, g18⟩, k1, k2, k3, k4, k5, k6, k7, k8, k9, k10, k11, k12, k13, hmz⟩ := id hM
  obtain ⟨x2, x1, x3, x4⟩ := id hT
  refine x_aload_n dX5_isNext_0 rfl ?_
  refine x_get 7 hO dX5_isNext_1 f_X5_140 (by first | (simp only [gK_wI]; assumption) | assumption) ⟨by decide, by decide⟩ (v := .int (nI p)) (congrArg Value.int x3) ?_
  refine x_aload_n dX5_isNext_4 rfl ?_
  refine x_get 7 hO dX5_isNext_5 f_X5_134 (by first | (simp only [gK_wI]; assumption) | assumption) ⟨by decide, by decide⟩ (v := .int (nI n)) (congrArg Value.int x2) ?_
  refine x_icmp_ge (tgt := 28) dX5_isNext_8 (by decide) (fun c8 => ?_) (fun c8 => ?_)
  · simp (disch := omega) only [nI_leI] at c8
    have ec := ch_out (S := S) (n := n) (p := p) (by omega)
    refine x_iconst (v := nI 0) dX5_isNext_28 (by decide) ?_
    refine x_iret dX5_isNext_29 rfl (by first | rfl | assumption) ?_
    exact hq _ (by first | exact (if_pos (by omega)).symm | exact (if_neg (by omega)).symm)
  · simp (disch := omega) only [nI_leI] at c8
    have ec := ch_in (S := S) (n := n) (p := p) (by omega)
    have hs := hS p (by omega)
    refine x_aload_n dX5_isNext_11 rfl ?_
    refine x_get 7 hO dX5_isNext_12 f_X5_7 (by first | (simp only [gK_wI]; assumption) | assumption) ⟨by decide, by decide⟩ (v := .ref (m + 1)) (congrArg va_rf g1) ?_
    refine x_aload_n dX5_isNext_15 rfl ?_
    refine x_get 7 hO dX5_isNext_16 f_X5_140 (by first | (simp only [gK_wI]; assumption) | assumption) ⟨by decide, by decide⟩ (v := .int (nI p)) (congrArg Value.int x3) ?_
    refine x_iald p 120 hO dX5_isNext_19 k1.1 rfl k1.2 (by omega) (by decide) ?_
    rw [show gI C (m + 1) p = nI (S p) from x1 p (by omega)]
    refine x_iload_n dX5_isNext_20 rfl ?_
    refine x_icmp_ne (tgt := 28) dX5_isNext_21 (by decide) (fun c21 => ?_) (fun c21 => ?_)
    · simp (disch := omega) only [nI_eq] at c21
      refine x_iconst (v := nI 0) dX5_isNext_28 (by decide) ?_
      refine x_iret dX5_isNext_29 rfl (by first | rfl | assumption) ?_
      exact hq _ (by first | exact (if_pos (by omega)).symm | exact (if_neg (by omega)).symm)
    · simp (disch := omega) only [nI_eq] at c21
      refine x_iconst (v := nI 1) dX5_isNext_24 (by decide) ?_
      refine x_goto (tgt := 29) dX5_isNext_25 (by decide) ?_
      refine x_iret dX5_isNext_29 rfl (by first | rfl | assumption) ?_
      exact hq _ (by first | exact (if_pos (by omega)).symm | exact (if_neg (by omega)).symm)
theorem TM_pC {S : Nat → Nat} {n c : Nat} {s : PS} : (pC S n c s).1 = (s.1 && decide (ch S n s.2.1 = c)) ∧ (pC S n c s).2.1 = (if (s.1 && decide (ch S n s.2.1 = c)) = true then s.2.1 + 1 else s.2.1) ∧ (pC S n c s).2.2 = s.2.2 := by
  unfold pC
  by_cases h : s.1 = true ∧ ch S n s.2.1 = c
  · rw [if_pos h, if_pos (by rw [h.1, decide_eq_true h.2]; rfl)]
    exact ⟨by rw [h.1, decide_eq_true h.2]; rfl, rfl, rfl⟩
  · have e : (s.1 && decide (ch S n s.2.1 = c)) = false := by
      cases h1 : s.1 with
      | false => rfl
      | true => rw [decide_eq_false (fun q => h ⟨h1, q⟩)]; rfl
    rw [if_neg h, e, if_neg (by decide)]
    exact ⟨rfl, rfl, rfl⟩

theorem r_accept {G : GT} {C : AH} {Q : QT} {X : XT} {m n p : Nat} {S : Nat → Nat} {g : Bool} {b : Bool} {z : Int32} (hO : GO G) (hM : MdS C m) (hT : TM (gI C) m S n p g) (hz : z = (if b = true then 1 else 0)) (hq : ∀ f : Nat → Nat → Int32, TM f m S n (if (g && b) = true then p + 1 else p) (g && b) → TF f (gI C) m → Q none (wI C f)) : Mt G M_X5_accept [.ref m, .int z] C Q X := by
  refine Mt_of (by decide) (Nat.le_of_ble_eq_true rfl) ?_
  obtain ⟨hm0, ⟨g1, g6, g7, g8, g9, g10, g12, g13, g14, g15, g16, g17, g18⟩, k1, k2, k3, k4, k5, k6, k7, k8, k9, k10, k11, k12, k13, hmz⟩ := id hM
  obtain ⟨x2, x1, x3, x4⟩ := id hT
  subst hz
  rcases g with _ | _ <;> rcases b with _ | _
  · have x4 : gI C m 4 = 0 := x4
    change Ex G M_X5_accept Q X (mC M_X5_accept) (mS M_X5_accept) 0 (lv_args 0 [.ref m, .int 0]) [] C
    refine x_aload_n dX5_accept_0 rfl ?_
    refine x_aload_n dX5_accept_1 rfl ?_
    refine x_get 7 hO dX5_accept_2 f_X5_143 (by first | (simp only [gK_wI]; assumption) | assumption) ⟨by decide, by decide⟩ (v := .int 0) (congrArg Value.int x4) ?_
    refine x_if_eq (tgt := 16) dX5_accept_5 (by decide) (fun c5 => ?_) (fun c5 => ?_)
    · refine x_iconst (v := nI 0) dX5_accept_16 (by decide) ?_
      refine x_putZ 7 hO dX5_accept_17 f_X5_143 (fw_7_4 _) (by first | (simp only [gK_wI]; assumption) | assumption) ⟨by decide, by decide⟩ rfl (Or.inl rfl) ?_
      refine x_aload_n dX5_accept_20 rfl ?_
      refine x_dup dX5_accept_21 rfl ?_
      refine x_get 7 hO dX5_accept_22 f_X5_140 (by first | (simp only [gK_wI]; assumption) | assumption) ⟨by decide, by decide⟩ (v := .int (nI p)) (congrArg Value.int ((up2_n (by omega)).trans x3)) ?_
      refine x_aload_n dX5_accept_25 rfl ?_
      refine x_get 7 hO dX5_accept_26 f_X5_143 (by first | (simp only [gK_wI]; assumption) | assumption) ⟨by decide, by decide⟩ (v := .int (nI 0)) (congrArg Value.int up2_s) ?_
      refine x_if_eq (tgt := 36) dX5_accept_29 (by decide) (fun c29 => ?_) (fun c29 => ?_)
      · refine x_iconst (v := nI 0) dX5_accept_36 (by decide) ?_
        refine x_iadd dX5_accept_37 ?_
        refine x_putI 7 hO dX5_accept_38 f_X5_140 (fw_7_3 _) (by first | (simp only [gK_wI]; assumption) | assumption) ⟨by decide, by decide⟩ rfl rfl ?_
        refine x_ret dX5_accept_41 rfl ?_
        try simp only [wI_wI, gI_wI]
        refine hq _ ⟨?_, fun i hi => ?_, ?_, ?_⟩ (fun a j h => ?_)
        · rw [up2_n (by omega), up2_n (by omega)]; exact x2
        · rw [up2_n (by omega), up2_n (by omega)]; exact x1 i hi
        · rw [up2_s]
          exact nI_add p 0
        · rw [up2_n (by omega), up2_s]; rfl
        · rw [up2_n (fun q => h ⟨q.1, Or.inl q.2⟩), up2_n (fun q => h ⟨q.1, Or.inr q.2⟩)]
      · exact absurd rfl c29
    · exact absurd rfl c5
  · have x4 : gI C m 4 = 0 := x4
    change Ex G M_X5_accept Q X (mC M_X5_accept) (mS M_X5_accept) 0 (lv_args 0 [.ref m, .int 1]) [] C
    refine x_aload_n dX5_accept_0 rfl ?_
    refine x_aload_n dX5_accept_1 rfl ?_
    refine x_get 7 hO dX5_accept_2 f_X5_143 (by first | (simp only [gK_wI]; assumption) | assumption) ⟨by decide, by decide⟩ (v := .int 0) (congrArg Value.int x4) ?_
    refine x_if_eq (tgt := 16) dX5_accept_5 (by decide) (fun c5 => ?_) (fun c5 => ?_)
    · refine x_iconst (v := nI 0) dX5_accept_16 (by decide) ?_
      refine x_putZ 7 hO dX5_accept_17 f_X5_143 (fw_7_4 _) (by first | (simp only [gK_wI]; assumption) | assumption) ⟨by decide, by decide⟩ rfl (Or.inl rfl) ?_
      refine x_aload_n dX5_accept_20 rfl ?_
      refine x_dup dX5_accept_21 rfl ?_
      refine x_get 7 hO dX5_accept_22 f_X5_140 (by first | (simp only [gK_wI]; assumption) | assumption) ⟨by decide, by decide⟩ (v := .int (nI p)) (congrArg Value.int ((up2_n (by omega)).trans x3)) ?_
      refine x_aload_n dX5_accept_25 rfl ?_
      refine x_get 7 hO dX5_accept_26 f_X5_143 (by first | (simp only [gK_wI]; assumption) | assumption) ⟨by decide, by decide⟩ (v := .int (nI 0)) (congrArg Value.int up2_s) ?_
      refine x_if_eq (tgt := 36) dX5_accept_29 (by decide) (fun c29 => ?_) (fun c29 => ?_)
      · refine x_iconst (v := nI 0) dX5_accept_36 (by decide) ?_
        refine x_iadd dX5_accept_37 ?_
        refine x_putI 7 hO dX5_accept_38 f_X5_140 (fw_7_3 _) (by first | (simp only [gK_wI]; assumption) | assumption) ⟨by decide, by decide⟩ rfl rfl ?_
        refine x_ret dX5_accept_41 rfl ?_
        try simp only [wI_wI, gI_wI]
        refine hq _ ⟨?_, fun i hi => ?_, ?_, ?_⟩ (fun a j h => ?_)
        · rw [up2_n (by omega), up2_n (by omega)]; exact x2
        · rw [up2_n (by omega), up2_n (by omega)]; exact x1 i hi
        · rw [up2_s]
          exact nI_add p 0
        · rw [up2_n (by omega), up2_s]; rfl
        · rw [up2_n (fun q => h ⟨q.1, Or.inl q.2⟩), up2_n (fun q => h ⟨q.1, Or.inr q.2⟩)]
      · exact absurd rfl c29
    · exact absurd rfl c5
  · have x4 : gI C m 4 = 1 := x4
    change Ex G M_X5_accept Q X (mC M_X5_accept) (mS M_X5_accept) 0 (lv_args 0 [.ref m, .int 0]) [] C
    refine x_aload_n dX5_accept_0 rfl ?_
    refine x_aload_n dX5_accept_1 rfl ?_
    refine x_get 7 hO dX5_accept_2 f_X5_143 (by first | (simp only [gK_wI]; assumption) | assumption) ⟨by decide, by decide⟩ (v := .int 1) (congrArg Value.int x4) ?_
    refine x_if_eq (tgt := 16) dX5_accept_5 (by decide) (fun c5 => ?_) (fun c5 => ?_)
    · exact absurd c5 (by decide)
    · refine x_iload_n dX5_accept_8 rfl ?_
      refine x_if_eq (tgt := 16) dX5_accept_9 (by decide) (fun c9 => ?_) (fun c9 => ?_)
      · refine x_iconst (v := nI 0) dX5_accept_16 (by decide) ?_
        refine x_putZ 7 hO dX5_accept_17 f_X5_143 (fw_7_4 _) (by first | (simp only [gK_wI]; assumption) | assumption) ⟨by decide, by decide⟩ rfl (Or.inl rfl) ?_
        refine x_aload_n dX5_accept_20 rfl ?_
        refine x_dup dX5_accept_21 rfl ?_
        refine x_get 7 hO dX5_accept_22 f_X5_140 (by first | (simp only [gK_wI]; assumption) | assumption) ⟨by decide, by decide⟩ (v := .int (nI p)) (congrArg Value.int ((up2_n (by omega)).trans x3)) ?_
        refine x_aload_n dX5_accept_25 rfl ?_
        refine x_get 7 hO dX5_accept_26 f_X5_143 (by first | (simp only [gK_wI]; assumption) | assumption) ⟨by decide, by decide⟩ (v := .int (nI 0)) (congrArg Value.int up2_s) ?_
        refine x_if_eq (tgt := 36) dX5_accept_29 (by decide) (fun c29 => ?_) (fun c29 => ?_)
        · refine x_iconst (v := nI 0) dX5_accept_36 (by decide) ?_
          refine x_iadd dX5_accept_37 ?_
          refine x_putI 7 hO dX5_accept_38 f_X5_140 (fw_7_3 _) (by first | (simp only [gK_wI]; assumption) | assumption) ⟨by decide, by decide⟩ rfl rfl ?_
          refine x_ret dX5_accept_41 rfl ?_
          try simp only [wI_wI, gI_wI]
          refine hq _ ⟨?_, fun i hi => ?_, ?_, ?_⟩ (fun a j h => ?_)
          · rw [up2_n (by omega), up2_n (by omega)]; exact x2
          · rw [up2_n (by omega), up2_n (by omega)]; exact x1 i hi
          · rw [up2_s]
            exact nI_add p 0
          · rw [up2_n (by omega), up2_s]; rfl
          · rw [up2_n (fun q => h ⟨q.1, Or.inl q.2⟩), up2_n (fun q => h ⟨q.1, Or.inr q.2⟩)]
        · exact absurd rfl c29
      · exact absurd rfl c9
  · have x4 : gI C m 4 = 1 := x4
    change Ex G M_X5_accept Q X (mC M_X5_accept) (mS M_X5_accept) 0 (lv_args 0 [.ref m, .int 1]) [] C
    refine x_aload_n dX5_accept_0 rfl ?_
    refine x_aload_n dX5_accept_1 rfl ?_
    refine x_get 7 hO dX5_accept_2 f_X5_143 (by first | (simp only [gK_wI]; assumption) | assumption) ⟨by decide, by decide⟩ (v := .int 1) (congrArg Value.int x4) ?_
    refine x_if_eq (tgt := 16) dX5_accept_5 (by decide) (fun c5 => ?_) (fun c5 => ?_)
    · exact absurd c5 (by decide)
    · refine x_iload_n dX5_accept_8 rfl ?_
      refine x_if_eq (tgt := 16) dX5_accept_9 (by decide) (fun c9 => ?_) (fun c9 => ?_)
      · exact absurd c9 (by decide)
      · refine x_iconst (v := nI 1) dX5_accept_12 (by decide) ?_
        refine x_goto (tgt := 17) dX5_accept_13 (by decide) ?_
        refine x_putZ 7 hO dX5_accept_17 f_X5_143 (fw_7_4 _) (by first | (simp only [gK_wI]; assumption) | assumption) ⟨by decide, by decide⟩ rfl (Or.inr rfl) ?_
        refine x_aload_n dX5_accept_20 rfl ?_
        refine x_dup dX5_accept_21 rfl ?_
        refine x_get 7 hO dX5_accept_22 f_X5_140 (by first | (simp only [gK_wI]; assumption) | assumption) ⟨by decide, by decide⟩ (v := .int (nI p)) (congrArg Value.int ((up2_n (by omega)).trans x3)) ?_
        refine x_aload_n dX5_accept_25 rfl ?_
        refine x_get 7 hO dX5_accept_26 f_X5_143 (by first | (simp only [gK_wI]; assumption) | assumption) ⟨by decide, by decide⟩ (v := .int (nI 1)) (congrArg Value.int up2_s) ?_
        refine x_if_eq (tgt := 36) dX5_accept_29 (by decide) (fun c29 => ?_) (fun c29 => ?_)
        · exact absurd c29 (by decide)
        · refine x_iconst (v := nI 1) dX5_accept_32 (by decide) ?_
          refine x_goto (tgt := 37) dX5_accept_33 (by decide) ?_
          refine x_iadd dX5_accept_37 ?_
          refine x_putI 7 hO dX5_accept_38 f_X5_140 (fw_7_3 _) (by first | (simp only [gK_wI]; assumption) | assumption) ⟨by decide, by decide⟩ rfl rfl ?_
          refine x_ret dX5_accept_41 rfl ?_
          try simp only [wI_wI, gI_wI]
          refine hq _ ⟨?_, fun i hi => ?_, ?_, ?_⟩ (fun a j h => ?_)
          · rw [up2_n (by omega), up2_n (by omega)]; exact x2
          · rw [up2_n (by omega), up2_n (by omega)]; exact x1 i hi
          · rw [up2_s]
            exact nI_add p 1
          · rw [up2_n (by omega), up2_s]; rfl
          · rw [up2_n (fun q => h ⟨q.1, Or.inl q.2⟩), up2_n (fun q => h ⟨q.1, Or.inr q.2⟩)]

theorem dgI {c : Nat} (h : c < 256) : (nI 0 ≤ nI c - nI 48 ∧ nI c - nI 48 ≤ nI 9) ↔ isD c := by
  have e : (nI c - nI 48).toInt = (c : Int) - (48 : Nat) := pk_sub_toInt (by omega) (by decide)
  rw [Int32.le_iff_toInt_le, Int32.le_iff_toInt_le, e, nI_toInt (by decide), nI_toInt (by decide)]
  show _ ↔ 48 ≤ c ∧ c ≤ 57
  omega
theorem r_digit {G : GT} {C : AH} {Q : QT} {X : XT} {m n p : Nat} {S : Nat → Nat} {g : Bool} (hO : GO G) (hM : MdS C m) (hT : TM (gI C) m S n p g) (hn : n ≤ 120) (hS : ∀ i, i < n → S i < 256) (hp : p ≤ n) (hq : Q (some (.int (if isD (ch S n p) then nI (ch S n p - 48) else -1))) C) : Mt G M_X5_digit [.ref m] C Q X := by
  refine Mt_of (by decide) (Nat.le_of_ble_eq_true rfl) ?_
  obtain ⟨hm0, ⟨g1, g6, g7, g8, g9, g10, g12, g13, g14, g15, g16, g17, g18⟩, k1, k2, k3, k4, k5, k6, k7, k8, k9, k10, k11, k12, k13, hmz⟩ := id hM
  obtain ⟨x2, x1, x3, x4⟩ := id hT
  refine x_aload_n dX5_digit_0 rfl ?_
  refine x_get 7 hO dX5_digit_1 f_X5_140 (by first | (simp only [gK_wI]; assumption) | assumption) ⟨by decide, by decide⟩ (v := .int (nI p)) (congrArg Value.int x3) ?_
  refine x_aload_n dX5_digit_4 rfl ?_
  refine x_get 7 hO dX5_digit_5 f_X5_134 (by first | (simp only [gK_wI]; assumption) | assumption) ⟨by decide, by decide⟩ (v := .int (nI n)) (congrArg Value.int x2) ?_
  refine x_icmp_ge (tgt := 26) dX5_digit_8 (by decide) (fun c8 => ?_) (fun c8 => ?_)
  · simp (disch := omega) only [nI_leI] at c8
    have ec := ch_out (S := S) (n := n) (p := p) (by omega)
    refine x_iconst (v := (-1)) dX5_digit_26 (by decide) ?_
    refine x_istore_n dX5_digit_27 (by decide) ?_
    refine x_iload_n dX5_digit_28 rfl ?_
    refine x_i2l dX5_digit_29 ?_
    refine x_lconst (v := 0) dX5_digit_30 (by decide) ?_
    refine x_ldc2 hO.1 dX5_digit_31 k_X5_147 ?_
    refine x_callS (As := [_, _, _]) hO dX5_digit_34 o_X5_in s_X5_in l_X5_118 ⟨by decide, by decide⟩ ⟨by decide, by decide⟩ rfl rfl (Nat.le_of_ble_eq_true rfl) (r_inI (a := nI 0) (b := nI 9) hO (by decide) (by decide) (fun r34 hr34 => ?_))
    dsimp only [Option.toList, List.cons_append, List.nil_append]
    refine x_if_eq (tgt := 44) dX5_digit_37 (by decide) (fun c37 => ?_) (fun c37 => ?_)
    · have p34 := (ite01 hr34).1 c37
      rw [if_neg (show ¬ isD (ch S n p) by rw [ec]; show ¬ (48 ≤ 1000 ∧ 1000 ≤ 57); omega)] at hq
      refine x_iconst (v := (-1)) dX5_digit_44 (by decide) ?_
      refine x_iret dX5_digit_45 rfl rfl ?_
      exact hq
    · exact absurd ((ite01 hr34).2 c37).1 (by decide)
  · simp (disch := omega) only [nI_leI] at c8
    have ec := ch_in (S := S) (n := n) (p := p) (by omega)
    have hs := hS p (by omega)
    refine x_aload_n dX5_digit_11 rfl ?_
    refine x_get 7 hO dX5_digit_12 f_X5_7 (by first | (simp only [gK_wI]; assumption) | assumption) ⟨by decide, by decide⟩ (v := .ref (m + 1)) (congrArg va_rf g1) ?_
    refine x_aload_n dX5_digit_15 rfl ?_
    refine x_get 7 hO dX5_digit_16 f_X5_140 (by first | (simp only [gK_wI]; assumption) | assumption) ⟨by decide, by decide⟩ (v := .int (nI p)) (congrArg Value.int x3) ?_
    refine x_iald p 120 hO dX5_digit_19 k1.1 rfl k1.2 (by omega) (by decide) ?_
    rw [show gI C (m + 1) p = nI (S p) from x1 p (by omega)]
    refine x_bipush (v := nI 48) dX5_digit_20 (by decide) ?_
    refine x_isub dX5_digit_22 ?_
    refine x_goto (tgt := 27) dX5_digit_23 (by decide) ?_
    refine x_istore_n dX5_digit_27 (by decide) ?_
    refine x_iload_n dX5_digit_28 rfl ?_
    refine x_i2l dX5_digit_29 ?_
    refine x_lconst (v := 0) dX5_digit_30 (by decide) ?_
    refine x_ldc2 hO.1 dX5_digit_31 k_X5_147 ?_
    refine x_callS (As := [_, _, _]) hO dX5_digit_34 o_X5_in s_X5_in l_X5_118 ⟨by decide, by decide⟩ ⟨by decide, by decide⟩ rfl rfl (Nat.le_of_ble_eq_true rfl) (r_inI (a := nI 0) (b := nI 9) hO (by decide) (by decide) (fun r34 hr34 => ?_))
    dsimp only [Option.toList, List.cons_append, List.nil_append]
    refine x_if_eq (tgt := 44) dX5_digit_37 (by decide) (fun c37 => ?_) (fun c37 => ?_)
    · have p34 := (ite01 hr34).1 c37
      have hd : ¬ isD (ch S n p) := fun q => p34 ((dgI hs).mpr (by rw [← ec]; exact q))
      rw [if_neg hd] at hq
      refine x_iconst (v := (-1)) dX5_digit_44 (by decide) ?_
      refine x_iret dX5_digit_45 rfl rfl ?_
      exact hq
    · have p34 := (ite01 hr34).2 c37
      have hd : isD (ch S n p) := by rw [ec]; exact (dgI hs).mp p34
      rw [if_pos hd, ec] at hq
      have hd2 : 48 ≤ S p := by rw [ec] at hd; exact hd.1
      rw [pk_sub hd2]
      refine x_iload_n dX5_digit_40 rfl ?_
      refine x_goto (tgt := 45) dX5_digit_41 (by decide) ?_
      refine x_iret dX5_digit_45 rfl rfl ?_
      exact hq

abbrev bgC (v lo hi i : Nat) : Prop := v * 10 ^ i ≤ hi ∧ lo ≤ v * 10 ^ i + 10 ^ i - 1 ∧ (0 < v ∨ i = 0)
def bgS (v lo hi : Nat) : Nat → Bool
  | 0 => false
  | i + 1 => bgS v lo hi i || decide (bgC v lo hi i)
theorem bgS_4 {v lo hi : Nat} (h9 : hi ≤ 999) (hv : v ≤ 9999) : (if bgS v lo hi 4 = true then (1 : Int32) else 0) = (if Beg v lo hi then 1 else 0) := by
  have e : bgS v lo hi 4 = true ↔ Beg v lo hi := by
    simp only [bgS, Bool.or_eq_true, decide_eq_true_eq, bgC]
    show _ ↔ (v = 0 ∧ lo = 0) ∨ (0 < v ∧ ((lo ≤ v ∧ v ≤ hi) ∨ (10 * v ≤ hi ∧ lo ≤ 10 * v + 9) ∨ (100 * v ≤ hi ∧ lo ≤ 100 * v + 99)))
    have e0 : (10 : Nat) ^ 0 = 1 := rfl
    have e1 : (10 : Nat) ^ 1 = 10 := rfl
    have e2 : (10 : Nat) ^ 2 = 100 := rfl
    have e3 : (10 : Nat) ^ 3 = 1000 := rfl
    simp only [e0, e1, e2, e3, Bool.false_eq_true, false_or, or_true, and_true]
    constructor
    · intro q
      omega
    · intro q
      omega
  by_cases h : Beg v lo hi
  · rw [if_pos h, if_pos (e.mpr h)]
  · rw [if_neg h, if_neg (fun q => h (e.mp q))]
theorem r_begins {G : GT} {C : AH} {Q : QT} {X : XT} {v lo hi : Nat} (hO : GO G) (h9 : hi ≤ 999) (hl : lo ≤ 999) (hv : v ≤ 9999) (hq : ∀ r : Int32, r = (if Beg v lo hi then 1 else 0) → Q (some (.int r)) C) : Mt G M_X5_begins [.int (nI v), .int (nI lo), .int (nI hi)] C Q X := by
  refine Mt_of (by decide) (Nat.le_of_ble_eq_true rfl) ?_
  have loop : ∀ (m9 i : Nat), 4 - i = m9 → i ≤ 4 → Ex G M_X5_begins Q X (mC M_X5_begins) (mS M_X5_begins) 8 [(0, .int (nI v)), (1, .int (nI lo)), (2, .int (nI hi)), (3, .int (nI (10 ^ i))), (4, .int (if bgS v lo hi i = true then 1 else 0)), (5, .int (nI i))] [] C := by
    intro m9
    induction m9 using Nat.strongRecOn with
    | _ m9 ih =>
      intro i hm9 hi9
      refine x_iload dX5_begins_8 rfl ?_
      refine x_iconst (v := nI 4) dX5_begins_10 (by decide) ?_
      refine x_icmp_ge (tgt := 64) dX5_begins_11 (by decide) (fun c11 => ?_) (fun c11 => ?_)
      · simp (disch := omega) only [nI_leI] at c11
        refine x_iload dX5_begins_64 rfl ?_
        refine x_iret dX5_begins_66 rfl (nr01 (or01 rfl)) ?_
        have : i = 4 := by omega
        subst this
        exact hq _ (by rw [← bgS_4 h9 hv])
      · simp (disch := omega) only [nI_leI] at c11
        obtain ⟨u, hu⟩ : ∃ u, 10 ^ i = u := ⟨_, rfl⟩
        have hu1 : u ≤ 1000 ∧ 1 ≤ u := by
          rcases (show i = 0 ∨ i = 1 ∨ i = 2 ∨ i = 3 by omega) with rfl | rfl | rfl | rfl <;> omega
        have hvu : v * u ≤ 9999 * 1000 := Nat.mul_le_mul hv hu1.1
        cases hb : bgS v lo hi i with
        | true =>
          rw [hu]
          refine x_iload dX5_begins_14 rfl ?_
          refine x_if_ne (tgt := 46) dX5_begins_16 (by decide) (fun c16 => ?_) (fun c16 => ?_)
          · refine x_iconst (v := nI 1) dX5_begins_46 (by decide) ?_
            refine x_goto (tgt := 51) dX5_begins_47 (by decide) ?_
            refine x_istore dX5_begins_51 (by decide) ?_
            refine x_iload_n dX5_begins_53 rfl ?_
            refine x_bipush (v := nI 10) dX5_begins_54 (by decide) ?_
            refine x_imul dX5_begins_56 ?_
            rw [pk_mul]
            refine x_istore_n dX5_begins_57 (by decide) ?_
            refine x_iinc (v := nI 1) dX5_begins_58 rfl (by decide) (by decide) ?_
            refine x_goto (tgt := 8) dX5_begins_61 (by decide) ?_
            have eb : bgS v lo hi (i + 1) = true := by unfold bgS; rw [hb]; rfl
            refine x_ls [(0, .int (nI v)), (1, .int (nI lo)), (2, .int (nI hi)), (3, .int (nI (10 ^ (i + 1)))), (4, .int (if bgS v lo hi (i + 1) = true then 1 else 0)), (5, .int (nI (i + 1)))] ⟨rfl, rfl, rfl, (by rw [Nat.pow_succ, hu]; rfl), (by rw [eb]; rfl), (by rw [← nI_add]; rfl), trivial⟩ ?_
            exact ih (m9 - 1) (by omega) (i + 1) (by omega) (by omega)
          · exact absurd c16 (by decide)
        | false =>
          rw [hu]
          refine x_iload dX5_begins_14 rfl ?_
          refine x_if_ne (tgt := 46) dX5_begins_16 (by decide) (fun c16 => ?_) (fun c16 => ?_)
          · exact absurd rfl c16
          · refine x_iload_n dX5_begins_19 rfl ?_
            refine x_iload_n dX5_begins_20 rfl ?_
            refine x_imul dX5_begins_21 ?_
            rw [pk_mul]
            refine x_iload_n dX5_begins_22 rfl ?_
            refine x_icmp_gt (tgt := 50) dX5_begins_23 (by decide) (fun c23 => ?_) (fun c23 => ?_)
            · simp (disch := omega) only [nI_ltI] at c23
              refine x_iconst (v := nI 0) dX5_begins_50 (by decide) ?_
              refine x_istore dX5_begins_51 (by decide) ?_
              refine x_iload_n dX5_begins_53 rfl ?_
              refine x_bipush (v := nI 10) dX5_begins_54 (by decide) ?_
              refine x_imul dX5_begins_56 ?_
              rw [pk_mul]
              refine x_istore_n dX5_begins_57 (by decide) ?_
              refine x_iinc (v := nI 1) dX5_begins_58 rfl (by decide) (by decide) ?_
              refine x_goto (tgt := 8) dX5_begins_61 (by decide) ?_
              have eb : bgS v lo hi (i + 1) = false := by unfold bgS; rw [hb, decide_eq_false (show ¬ bgC v lo hi i from fun q => (by have q1 := q.1; have q2 := q.2.1; have q3 := q.2.2; rw [hu] at q1 q2; omega))]; rfl
              refine x_ls [(0, .int (nI v)), (1, .int (nI lo)), (2, .int (nI hi)), (3, .int (nI (10 ^ (i + 1)))), (4, .int (if bgS v lo hi (i + 1) = true then 1 else 0)), (5, .int (nI (i + 1)))] ⟨rfl, rfl, rfl, (by rw [Nat.pow_succ, hu]; rfl), (by rw [eb]; rfl), (by rw [← nI_add]; rfl), trivial⟩ ?_
              exact ih (m9 - 1) (by omega) (i + 1) (by omega) (by omega)
            · simp (disch := omega) only [nI_ltI] at c23
              refine x_iload_n dX5_begins_26 rfl ?_
              refine x_iload_n dX5_begins_27 rfl ?_
              refine x_imul dX5_begins_28 ?_
              rw [pk_mul]
              refine x_iload_n dX5_begins_29 rfl ?_
              refine x_iadd dX5_begins_30 ?_
              rw [nI_add]
              refine x_iconst (v := nI 1) dX5_begins_31 (by decide) ?_
              refine x_isub dX5_begins_32 ?_
              rw [pk_sub (by omega)]
              refine x_iload_n dX5_begins_33 rfl ?_
              refine x_icmp_lt (tgt := 50) dX5_begins_34 (by decide) (fun c34 => ?_) (fun c34 => ?_)
              · simp (disch := omega) only [nI_ltI] at c34
                refine x_iconst (v := nI 0) dX5_begins_50 (by decide) ?_
                refine x_istore dX5_begins_51 (by decide) ?_
                refine x_iload_n dX5_begins_53 rfl ?_
                refine x_bipush (v := nI 10) dX5_begins_54 (by decide) ?_
                refine x_imul dX5_begins_56 ?_
                rw [pk_mul]
                refine x_istore_n dX5_begins_57 (by decide) ?_
                refine x_iinc (v := nI 1) dX5_begins_58 rfl (by decide) (by decide) ?_
                refine x_goto (tgt := 8) dX5_begins_61 (by decide) ?_
                have eb : bgS v lo hi (i + 1) = false := by unfold bgS; rw [hb, decide_eq_false (show ¬ bgC v lo hi i from fun q => (by have q1 := q.1; have q2 := q.2.1; have q3 := q.2.2; rw [hu] at q1 q2; omega))]; rfl
                refine x_ls [(0, .int (nI v)), (1, .int (nI lo)), (2, .int (nI hi)), (3, .int (nI (10 ^ (i + 1)))), (4, .int (if bgS v lo hi (i + 1) = true then 1 else 0)), (5, .int (nI (i + 1)))] ⟨rfl, rfl, rfl, (by rw [Nat.pow_succ, hu]; rfl), (by rw [eb]; rfl), (by rw [← nI_add]; rfl), trivial⟩ ?_
                exact ih (m9 - 1) (by omega) (i + 1) (by omega) (by omega)
              · simp (disch := omega) only [nI_ltI] at c34
                refine x_iload_n dX5_begins_37 rfl ?_
                refine x_if_gt (tgt := 46) dX5_begins_38 (by decide) (fun c38 => ?_) (fun c38 => ?_)
                · rw [show (0 : Int32) = nI 0 from rfl, nI_ltI (by decide) (by omega)] at c38
                  refine x_iconst (v := nI 1) dX5_begins_46 (by decide) ?_
                  refine x_goto (tgt := 51) dX5_begins_47 (by decide) ?_
                  refine x_istore dX5_begins_51 (by decide) ?_
                  refine x_iload_n dX5_begins_53 rfl ?_
                  refine x_bipush (v := nI 10) dX5_begins_54 (by decide) ?_
                  refine x_imul dX5_begins_56 ?_
                  rw [pk_mul]
                  refine x_istore_n dX5_begins_57 (by decide) ?_
                  refine x_iinc (v := nI 1) dX5_begins_58 rfl (by decide) (by decide) ?_
                  refine x_goto (tgt := 8) dX5_begins_61 (by decide) ?_
                  have eb : bgS v lo hi (i + 1) = true := by unfold bgS; rw [hb, decide_eq_true (show bgC v lo hi i from ⟨by rw [hu]; omega, by rw [hu]; omega, by omega⟩)]; rfl
                  refine x_ls [(0, .int (nI v)), (1, .int (nI lo)), (2, .int (nI hi)), (3, .int (nI (10 ^ (i + 1)))), (4, .int (if bgS v lo hi (i + 1) = true then 1 else 0)), (5, .int (nI (i + 1)))] ⟨rfl, rfl, rfl, (by rw [Nat.pow_succ, hu]; rfl), (by rw [eb]; rfl), (by rw [← nI_add]; rfl), trivial⟩ ?_
                  exact ih (m9 - 1) (by omega) (i + 1) (by omega) (by omega)
                · rw [show (0 : Int32) = nI 0 from rfl, nI_ltI (by decide) (by omega)] at c38
                  refine x_iload dX5_begins_41 rfl ?_
                  refine x_if_ne (tgt := 50) dX5_begins_43 (by decide) (fun c43 => ?_) (fun c43 => ?_)
                  · simp (disch := omega) only [nI_z] at c43
                    refine x_iconst (v := nI 0) dX5_begins_50 (by decide) ?_
                    refine x_istore dX5_begins_51 (by decide) ?_
                    refine x_iload_n dX5_begins_53 rfl ?_
                    refine x_bipush (v := nI 10) dX5_begins_54 (by decide) ?_
                    refine x_imul dX5_begins_56 ?_
                    rw [pk_mul]
                    refine x_istore_n dX5_begins_57 (by decide) ?_
                    refine x_iinc (v := nI 1) dX5_begins_58 rfl (by decide) (by decide) ?_
                    refine x_goto (tgt := 8) dX5_begins_61 (by decide) ?_
                    have eb : bgS v lo hi (i + 1) = false := by unfold bgS; rw [hb, decide_eq_false (show ¬ bgC v lo hi i from fun q => (by have q1 := q.1; have q2 := q.2.1; have q3 := q.2.2; rw [hu] at q1 q2; omega))]; rfl
                    refine x_ls [(0, .int (nI v)), (1, .int (nI lo)), (2, .int (nI hi)), (3, .int (nI (10 ^ (i + 1)))), (4, .int (if bgS v lo hi (i + 1) = true then 1 else 0)), (5, .int (nI (i + 1)))] ⟨rfl, rfl, rfl, (by rw [Nat.pow_succ, hu]; rfl), (by rw [eb]; rfl), (by rw [← nI_add]; rfl), trivial⟩ ?_
                    exact ih (m9 - 1) (by omega) (i + 1) (by omega) (by omega)
                  · simp (disch := omega) only [nI_z] at c43
                    refine x_iconst (v := nI 1) dX5_begins_46 (by decide) ?_
                    refine x_goto (tgt := 51) dX5_begins_47 (by decide) ?_
                    refine x_istore dX5_begins_51 (by decide) ?_
                    refine x_iload_n dX5_begins_53 rfl ?_
                    refine x_bipush (v := nI 10) dX5_begins_54 (by decide) ?_
                    refine x_imul dX5_begins_56 ?_
                    rw [pk_mul]
                    refine x_istore_n dX5_begins_57 (by decide) ?_
                    refine x_iinc (v := nI 1) dX5_begins_58 rfl (by decide) (by decide) ?_
                    refine x_goto (tgt := 8) dX5_begins_61 (by decide) ?_
                    have eb : bgS v lo hi (i + 1) = true := by unfold bgS; rw [hb, decide_eq_true (show bgC v lo hi i from ⟨by rw [hu]; omega, by rw [hu]; omega, by omega⟩)]; rfl
                    refine x_ls [(0, .int (nI v)), (1, .int (nI lo)), (2, .int (nI hi)), (3, .int (nI (10 ^ (i + 1)))), (4, .int (if bgS v lo hi (i + 1) = true then 1 else 0)), (5, .int (nI (i + 1)))] ⟨rfl, rfl, rfl, (by rw [Nat.pow_succ, hu]; rfl), (by rw [eb]; rfl), (by rw [← nI_add]; rfl), trivial⟩ ?_
                    exact ih (m9 - 1) (by omega) (i + 1) (by omega) (by omega)
  refine x_iconst (v := nI 1) dX5_begins_0 (by decide) ?_
  refine x_istore_n dX5_begins_1 (by decide) ?_
  refine x_iconst (v := nI 0) dX5_begins_2 (by decide) ?_
  refine x_istore dX5_begins_3 (by decide) ?_
  refine x_iconst (v := nI 0) dX5_begins_5 (by decide) ?_
  refine x_istore dX5_begins_6 (by decide) ?_
  refine x_ls [(0, .int (nI v)), (1, .int (nI lo)), (2, .int (nI hi)), (3, .int (nI (10 ^ 0))), (4, .int (if bgS v lo hi 0 = true then 1 else 0)), (5, .int (nI 0))] ⟨rfl, rfl, rfl, rfl, rfl, rfl, trivial⟩ ?_
  exact loop _ 0 rfl (Nat.zero_le _)

