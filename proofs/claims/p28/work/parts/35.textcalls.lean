/-! the text's own calls *)-/
theorem s_isFull {G : GT} {C : AH} {Q : QT} {X : XT} {t n : Nat} {S : Nat → Nat} (hO : GO G) (hS : TxS C t) (hV : TxV (gI C) t S n) (hq : ∀ r : Int32, r = (if n = 120 then 1 else 0) → Q (some (.int r)) C) : Mt G M_X3_isFull [.ref t] C Q X := by
  refine Mt_of (by decide) (Nat.le_of_ble_eq_true rfl) ?_
  obtain ⟨k0, g0, g4, k1, n1, k2, n2⟩ := id hS
  obtain ⟨v1, v2, v3⟩ := id hV
  have f0 : fV C 5 t 0 = .ref (t + 1) := congrArg va_rf g0
  have f4 : fV C 5 t 4 = .ref (t + 2) := congrArg va_rf g4
  have f1 : fV C 5 t 1 = .int (nI n) := congrArg Value.int v1
  refine x_aload_n dX3_isFull_0 rfl ?_
  refine x_get 5 hO dX3_isFull_1 f_X3_19 (by first | (simp only [gK_wI]; assumption) | assumption) ⟨by decide, by decide⟩ (v := .int (nI n)) f1 ?_
  refine x_bipush (v := nI 120) dX3_isFull_4 (by decide) ?_
  refine x_icmp_lt (tgt := 13) dX3_isFull_6 (by decide) (fun c6 => ?_) (fun c6 => ?_)
  · simp (disch := omega) only [nI_ltI] at c6
    refine x_iconst (v := nI 0) dX3_isFull_13 (by decide) ?_
    refine x_iret dX3_isFull_14 rfl (by first | rfl | assumption) ?_
    exact hq _ (by first | (rw [if_pos (by omega)]; rfl) | (rw [if_neg (by omega)]; rfl))
  · simp (disch := omega) only [nI_ltI] at c6
    refine x_iconst (v := nI 1) dX3_isFull_9 (by decide) ?_
    refine x_goto (tgt := 14) dX3_isFull_10 (by decide) ?_
    refine x_iret dX3_isFull_14 rfl (by first | rfl | assumption) ?_
    exact hq _ (by first | (rw [if_pos (by omega)]; rfl) | (rw [if_neg (by omega)]; rfl))
theorem s_empty {G : GT} {C : AH} {Q : QT} {X : XT} {t n : Nat} {S : Nat → Nat} (hO : GO G) (hS : TxS C t) (hV : TxV (gI C) t S n) (hq : TxV (up2 (gI C) t 1 (nI 0)) t S 0 → Q (some (.int (nI n))) (wI C (up2 (gI C) t 1 (nI 0)))) : Mt G M_X3_empty [.ref t] C Q X := by
  refine Mt_of (by decide) (Nat.le_of_ble_eq_true rfl) ?_
  obtain ⟨k0, g0, g4, k1, n1, k2, n2⟩ := id hS
  obtain ⟨v1, v2, v3⟩ := id hV
  have f0 : fV C 5 t 0 = .ref (t + 1) := congrArg va_rf g0
  have f4 : fV C 5 t 4 = .ref (t + 2) := congrArg va_rf g4
  have f1 : fV C 5 t 1 = .int (nI n) := congrArg Value.int v1
  refine x_aload_n dX3_empty_0 rfl ?_
  refine x_get 5 hO dX3_empty_1 f_X3_19 (by first | (simp only [gK_wI]; assumption) | assumption) ⟨by decide, by decide⟩ (v := .int (nI n)) f1 ?_
  refine x_istore_n dX3_empty_4 (by decide) ?_
  refine x_aload_n dX3_empty_5 rfl ?_
  refine x_iconst (v := nI 0) dX3_empty_6 (by decide) ?_
  refine x_putI 5 hO dX3_empty_7 f_X3_19 (fw_5_1 _) (by first | (simp only [gK_wI]; assumption) | assumption) ⟨by decide, by decide⟩ rfl rfl ?_
  refine x_iload_n dX3_empty_10 rfl ?_
  refine x_iret dX3_empty_11 rfl rfl ?_
  exact hq ⟨up2_s, by omega, fun i hi => absurd hi (Nat.not_lt_zero i)⟩
theorem c65535 {c : Nat} (h : c < 256) : narrow .char (.int (nI c)) = .int (nI c) := (c255 h).2
theorem s_put {G : GT} {C : AH} {Q : QT} {X : XT} {t n : Nat} {S : Nat → Nat} {c : Nat} (hO : GO G) (hS : TxS C t) (hV : TxV (gI C) t S n) (hn : n < 120) (hc : c < 256) (hq : ∀ f : Nat → Nat → Int32, TxV f t (uN S n c) (n + 1) → (∀ j, j ≠ 1 → f t j = gI C t j) → (∀ a, a ≠ t → a ≠ t + 1 → f a = gI C a) → Q (some (.int (nI (n + 1)))) (wI C f)) : Mt G M_X3_put [.ref t, .int (nI c)] C Q X := by
  refine Mt_of (by decide) (Nat.le_of_ble_eq_true rfl) ?_
  obtain ⟨k0, g0, g4, k1, n1, k2, n2⟩ := id hS
  obtain ⟨v1, v2, v3⟩ := id hV
  have f0 : fV C 5 t 0 = .ref (t + 1) := congrArg va_rf g0
  have f4 : fV C 5 t 4 = .ref (t + 2) := congrArg va_rf g4
  have f1 : fV C 5 t 1 = .int (nI n) := congrArg Value.int v1
  have f1b : ∀ x : Int32, fV (wI C (up2 (gI C) (t + 1) n x)) 5 t 1 = .int (nI n) := fun x => congrArg Value.int ((up2_n (by omega)).trans v1)
  refine x_aload_n dX3_put_0 rfl ?_
  refine x_callV (As := []) 5 hO dX3_put_1 o_X3_isFull v_X3_isFull l_X3_23 ⟨by decide, by decide⟩ (by first | (simp only [gK_wI]; assumption) | assumption) ⟨by decide, by decide⟩ rfl ⟨by decide, by decide⟩ rfl rfl (Nat.le_of_ble_eq_true rfl) (s_isFull hO hS hV (fun r1 hr1 => ?_))
  dsimp only [Option.toList, List.cons_append, List.nil_append]
  refine x_if_ne (tgt := 27) dX3_put_4 (by decide) (fun c4 => ?_) (fun c4 => ?_)
  · exact absurd ((ite01 hr1).2 c4) (by omega)
  · have p1 := (ite01 hr1).1 c4
    refine x_aload_n dX3_put_7 rfl ?_
    refine x_get 5 hO dX3_put_8 f_X3_9 (by first | (simp only [gK_wI]; assumption) | assumption) ⟨by decide, by decide⟩ (v := .ref (t + 1)) f0 ?_
    refine x_aload_n dX3_put_11 rfl ?_
    refine x_get 5 hO dX3_put_12 f_X3_19 (by first | (simp only [gK_wI]; assumption) | assumption) ⟨by decide, by decide⟩ (v := .int (nI n)) f1 ?_
    refine x_iload_n dX3_put_15 rfl ?_
    refine x_cast _ _ (c65535 hc) hO dX3_put_16 (by first | (simp only [gK_wI]; assumption) | assumption) rfl (by first | (simp only [gN_wI]; assumption) | assumption) (by omega) (by decide) ?_
    refine x_aload_n dX3_put_17 rfl ?_
    refine x_dup dX3_put_18 rfl ?_
    refine x_get 5 hO dX3_put_19 f_X3_19 (by first | (simp only [gK_wI]; assumption) | assumption) ⟨by decide, by decide⟩ (v := .int (nI n)) (f1b _) ?_
    refine x_iconst (v := nI 1) dX3_put_22 (by decide) ?_
    refine x_iadd dX3_put_23 ?_
    refine x_putI 5 hO dX3_put_24 f_X3_19 (fw_5_1 _) (by first | (simp only [gK_wI]; assumption) | assumption) ⟨by decide, by decide⟩ rfl rfl ?_
    refine x_aload_n dX3_put_27 rfl ?_
    refine x_get 5 hO dX3_put_28 f_X3_19 (by first | (simp only [gK_wI]; assumption) | assumption) ⟨by decide, by decide⟩ (v := .int (nI n + nI 1)) (congrArg Value.int up2_s) ?_
    refine x_iret dX3_put_31 rfl rfl ?_
    simp only [wI_wI, gI_wI]
    rw [nI_add]
    refine hq _ ⟨up2_s, by omega, fun i hi => ?_⟩ (fun j hj => ?_) (fun a h1 h2 => funext fun j => ?_)
    · rw [up2_n (by omega)]
      by_cases e : i = n
      · subst e
        rw [up2_s, uN_s]
        exact ⟨rfl, hc⟩
      · rw [up2_n (by omega), uN_n e]
        exact v3 i (by omega)
    · rw [up2_n (by omega), up2_n (by omega)]
    · rw [up2_n (by omega), up2_n (by omega)]
theorem s_X3_init {G : GT} {C : AH} {Q : QT} {X : XT} {t : Nat} (hO : GO G) (hz : gz C = t + 1) (hK : gK C t = 5) (h0 : ∀ j, gI C t j = 0) (hq : ∀ C' : AH, gz C' = t + 3 → TxS C' t → TxV (gI C') t (fun _ => 0) 0 → Ag C C' t → Q none C') : Mt G M_X3_init [.ref t] C Q X := by
  refine Mt_of (by decide) (Nat.le_of_ble_eq_true rfl) ?_
  refine x_aload_n dX3_init_0 rfl ?_
  refine x_objI hO dX3_init_1 l_X3_3 i_obj c_obj ⟨by decide, by decide⟩ (Nat.le_of_ble_eq_true rfl) ?_
  refine x_aload_n dX3_init_4 rfl ?_
  refine x_bipush (v := nI 120) dX3_init_5 (by decide) ?_
  refine x_newa 22 _ hO dX3_init_7 ⟨by decide, by decide⟩ rfl ac_char rfl (by decide) (by decide) (by decide) ?_
  simp only [gz_wO, gz_wR, gz_wI, hz, Nat.add_assoc, Nat.reduceAdd]
  refine x_putR (r := some _) 5 hO dX3_init_9 f_X3_9 (fw_5_0) (by simp [gz_wO, gz_wR, gz_wI, gK_wO, gK_wR, gK_wI, gN_wO, gN_wR, gN_wI, gI_wO, gI_wR, gI_wI, gR_wO, gR_wR, gR_wI, gJ_wO, gJ_wR, gJ_wI, up2, hz, hK, Nat.add_assoc]) ⟨by decide, by decide⟩ rfl rfl rfl ?_
  refine x_aload_n dX3_init_12 rfl ?_
  refine x_iconst (v := nI 5) dX3_init_13 (by decide) ?_
  refine x_newa 20 _ hO dX3_init_14 ⟨by decide, by decide⟩ rfl ac_int rfl (by decide) (by decide) (by decide) ?_
  simp only [gz_wO, gz_wR, gz_wI, hz, Nat.add_assoc, Nat.reduceAdd]
  refine x_putR (r := some _) 5 hO dX3_init_16 f_X3_15 (fw_5_4) (by simp [gz_wO, gz_wR, gz_wI, gK_wO, gK_wR, gK_wI, gN_wO, gN_wR, gN_wI, gI_wO, gI_wR, gI_wI, gR_wO, gR_wR, gR_wI, gJ_wO, gJ_wR, gJ_wI, up2, hz, hK, Nat.add_assoc]) ⟨by decide, by decide⟩ rfl rfl rfl ?_
  refine x_ret dX3_init_19 rfl ?_
  refine hq _ ?_ ?_ ?_ ?_
  · simp [gz_wO, gz_wR, gz_wI, gK_wO, gK_wR, gK_wI, gN_wO, gN_wR, gN_wI, gI_wO, gI_wR, gI_wI, gR_wO, gR_wR, gR_wI, gJ_wO, gJ_wR, gJ_wI, up2, hz]
  · refine ⟨?_, ?_, ?_, ?_, ?_, ?_, ?_⟩
    · simp [gz_wO, gz_wR, gz_wI, gK_wO, gK_wR, gK_wI, gN_wO, gN_wR, gN_wI, gI_wO, gI_wR, gI_wI, gR_wO, gR_wR, gR_wI, gJ_wO, gJ_wR, gJ_wI, up2, hz, hK, Nat.add_assoc]
    · simp [gz_wO, gz_wR, gz_wI, gK_wO, gK_wR, gK_wI, gN_wO, gN_wR, gN_wI, gI_wO, gI_wR, gI_wI, gR_wO, gR_wR, gR_wI, gJ_wO, gJ_wR, gJ_wI, up2, hz, hK, Nat.add_assoc]
    · simp [gz_wO, gz_wR, gz_wI, gK_wO, gK_wR, gK_wI, gN_wO, gN_wR, gN_wI, gI_wO, gI_wR, gI_wI, gR_wO, gR_wR, gR_wI, gJ_wO, gJ_wR, gJ_wI, up2, hz, hK, Nat.add_assoc]
    · simp [gz_wO, gz_wR, gz_wI, gK_wO, gK_wR, gK_wI, gN_wO, gN_wR, gN_wI, gI_wO, gI_wR, gI_wI, gR_wO, gR_wR, gR_wI, gJ_wO, gJ_wR, gJ_wI, up2, hz, hK, Nat.add_assoc]
    · simp [gz_wO, gz_wR, gz_wI, gK_wO, gK_wR, gK_wI, gN_wO, gN_wR, gN_wI, gI_wO, gI_wR, gI_wI, gR_wO, gR_wR, gR_wI, gJ_wO, gJ_wR, gJ_wI, up2, hz, hK, Nat.add_assoc]
    · simp [gz_wO, gz_wR, gz_wI, gK_wO, gK_wR, gK_wI, gN_wO, gN_wR, gN_wI, gI_wO, gI_wR, gI_wI, gR_wO, gR_wR, gR_wI, gJ_wO, gJ_wR, gJ_wI, up2, hz, hK, Nat.add_assoc]
    · simp [gz_wO, gz_wR, gz_wI, gK_wO, gK_wR, gK_wI, gN_wO, gN_wR, gN_wI, gI_wO, gI_wR, gI_wI, gR_wO, gR_wR, gR_wI, gJ_wO, gJ_wR, gJ_wI, up2, hz, hK, Nat.add_assoc]
  · refine ⟨?_, by omega, fun i hi => absurd hi (Nat.not_lt_zero i)⟩
    simp [gz_wO, gz_wR, gz_wI, gK_wO, gK_wR, gK_wI, gN_wO, gN_wR, gN_wI, gI_wO, gI_wR, gI_wI, gR_wO, gR_wR, gR_wI, gJ_wO, gJ_wR, gJ_wI, up2, hz, h0, Nat.add_assoc, nI_0]
  · intro a ha
    simp [gz_wO, gz_wR, gz_wI, gK_wO, gK_wR, gK_wI, gN_wO, gN_wR, gN_wI, gI_wO, gI_wR, gI_wI, gR_wO, gR_wR, gR_wI, gJ_wO, gJ_wR, gJ_wI, up2, hz, Nat.add_assoc, show ¬ (a = t) by omega, show ¬ (a = t + 1) by omega, show ¬ (a = t + 2) by omega]

theorem s_findError {G : GT} {C : AH} {Q : QT} {X : XT} {t n : Nat} {S : Nat → Nat} {sa va : Nat → Nat} (hO : GO G) (hS : TxS C t) (hV : TxV (gI C) t S n) (hX : GX G sa va) (hq : ∀ (r : Int32) (f : Nat → Nat → Int32), r = enc (pAll S n (n + 1) 0) → (∀ j, j ≠ 2 → j ≠ 3 → f t j = gI C t j) → (∀ a, a ≠ t → a ≠ t + 2 → f a = gI C a) → Q (some (.int r)) (wI C f)) : Mt G M_X3_findError [.ref t] C Q X := by
  refine Mt_of (by decide) (Nat.le_of_ble_eq_true rfl) ?_
  obtain ⟨k0, g0, g4, k1, n1, k2, n2⟩ := id hS
  obtain ⟨v1, v2, v3⟩ := id hV
  have f0 : fV C 5 t 0 = .ref (t + 1) := congrArg va_rf g0
  have f4 : fV C 5 t 4 = .ref (t + 2) := congrArg va_rf g4
  have f1 : fV C 5 t 1 = .int (nI n) := congrArg Value.int v1
  have loop : ∀ (m i p : Nat) (f : Nat → Nat → Int32), n + 1 - i = m → i ≤ p → p ≤ n → f t 2 = nI p → pAll S n (n + 1) 0 = pAll S n (n + 1 - i) p → (∀ j, j ≠ 2 → j ≠ 3 → f t j = gI C t j) → (∀ a, a ≠ t → a ≠ t + 2 → f a = gI C a) → Ex G M_X3_findError Q X (mC M_X3_findError) (mS M_X3_findError) 7 [(0, .ref t), (1, .int (nI i))] [] (wI C f) := by
    intro m
    induction m using Nat.strongRecOn with
    | _ m ih =>
    intro i p f hm hip hpn hat hE hf1 hf2
    have v1f : f t 1 = nI n := (hf1 1 (by omega) (by omega)).trans v1
    have hVf : TxV f t S n := ⟨v1f, v2, fun i hi => by rw [hf2 (t + 1) (by omega) (by omega)]; exact v3 i hi⟩
    have f1 : fV (wI C f) 5 t 1 = .int (nI n) := congrArg Value.int v1f
    have hle := pCmd_le (S := S) hpn
    refine x_iload_n dX3_findError_7 rfl ?_
    refine x_aload_n dX3_findError_8 rfl ?_
    refine x_get 5 hO dX3_findError_9 f_X3_19 (by first | (simp only [gK_wI]; assumption) | assumption) ⟨by decide, by decide⟩ (v := .int (nI n)) f1 ?_
    refine x_icmp_gt (tgt := 60) dX3_findError_12 (by decide) (fun c12 => ?_) (fun c12 => ?_)
    · simp (disch := omega) only [nI_ltI] at c12
      omega
    · refine x_aload_n dX3_findError_15 rfl ?_
      refine x_callV (As := []) 5 hO dX3_findError_16 o_X3_readCommand v_X3_readCommand l_X3_30 ⟨by decide, by decide⟩ (by first | (simp only [gK_wI]; assumption) | assumption) ⟨by decide, by decide⟩ rfl ⟨by decide, by decide⟩ rfl rfl (Nat.le_of_ble_eq_true rfl) (s_readCommand (C := wI C f) (p := p) hO hS hVf hX hpn hat (fun r16 f16 h16 => ?_))
      dsimp only [Option.toList, List.cons_append, List.nil_append]
      obtain ⟨r1, r2, r3, r4, r5⟩ := id h16
      simp only [gI_wI] at r4 r5
      have hn16 : f16 t 1 = nI n := (r4 1 (by omega)).trans ((up2_n (by omega)).trans v1f)
      obtain ⟨z, hz⟩ : ∃ z, n + 1 - i = z + 1 := ⟨n - i, by omega⟩
      have hEz : pAll S n (n + 1) 0 = (if (pCmd S n p).1 = true then (if (pCmd S n p).2.1 = n then none else if ch S n (pCmd S n p).2.1 = 59 then pAll S n z ((pCmd S n p).2.1 + 1) else some (pCmd S n p).2.1) else some (pCmd S n p).2.1) := by
        rw [hE, hz]
        rfl
      refine x_if_ne (tgt := 27) dX3_findError_19 (by decide) (fun c19 => ?_) (fun c19 => ?_)
      · refine x_aload_n dX3_findError_27 rfl ?_
        refine x_get 5 hO dX3_findError_28 f_X3_27 (by first | (simp only [gK_wI]; assumption) | assumption) ⟨by decide, by decide⟩ (v := .int (nI (pCmd S n p).2.1)) (congrArg Value.int r1) ?_
        refine x_aload_n dX3_findError_31 rfl ?_
        refine x_get 5 hO dX3_findError_32 f_X3_19 (by first | (simp only [gK_wI]; assumption) | assumption) ⟨by decide, by decide⟩ (v := .int (nI n)) (congrArg Value.int hn16) ?_
        refine x_icmp_ne (tgt := 40) dX3_findError_35 (by decide) (fun c35 => ?_) (fun c35 => ?_)
        · have hV16 : TxV f16 t S n := TxV_RC h16 ⟨(up2_n (by omega)).trans v1f, v2, fun i hi => ⟨(up2_n (by omega)).trans (hVf.2.2 i hi).1, (hVf.2.2 i hi).2⟩⟩
          refine x_aload_n dX3_findError_40 rfl ?_
          refine x_bipush (v := nI 59) dX3_findError_41 (by decide) ?_
          refine x_callV (As := [_]) 5 hO dX3_findError_43 o_X3_readSign v_X3_readSign l_X3_33 ⟨by decide, by decide⟩ (by first | (simp only [gK_wI]; assumption) | assumption) ⟨by decide, by decide⟩ rfl ⟨by decide, by decide⟩ rfl rfl (Nat.le_of_ble_eq_true rfl) (s_readSign (C := wI C f16) (p := (pCmd S n p).2.1) (c := 59) hO hS hV16 (by omega) r1 (by decide) (fun h43 => ?_) (fun h43 => ?_))
          · dsimp only [Option.toList, List.cons_append, List.nil_append]
            refine x_if_ne (tgt := 54) dX3_findError_46 (by decide) (fun c46 => ?_) (fun c46 => ?_)
            · have hne : ¬ (pCmd S n p).2.1 = n := fun q => c35 (by rw [q])
              have hlt : (pCmd S n p).2.1 < n := by omega
              have hg : (pCmd S n p).1 = true := by
                cases e : (pCmd S n p).1 with
                | true => rfl
                | false =>
                  have hd := ((r3 e).resolve_left c19).2
                  unfold isD at hd
                  omega
              refine x_iinc (v := nI 1) dX3_findError_54 rfl (by decide) (by decide) ?_
              refine x_goto (tgt := 7) dX3_findError_57 (by decide) ?_
              simp only [wI_wI, gI_wI, nI_add]
              refine x_ls [(0, .ref t), (1, .int (nI (i + 1)))] ⟨rfl, rfl, trivial⟩ ?_
              refine ih (m - 1) (by omega) (i + 1) ((pCmd S n p).2.1 + 1) _ (by omega) (by omega) (by omega) up2_s ?_ ?_ ?_
              · rw [hE]
                show pAll S n (n + 1 - i) p = _
                obtain ⟨z, hz⟩ : ∃ z, n + 1 - i = z + 1 := ⟨n - i, by omega⟩
                rw [hz, show n + 1 - (i + 1) = z by omega]
                show (if _ then _ else _) = _
                rw [if_pos hg, if_neg hne, if_pos h43]
              · intro j h2 h3
                rw [up2_n (by omega), r4 j h2, up2_n (by omega), hf1 j h2 h3]
              · intro a h2 h3
                rw [← hf2 a h2 h3]
                funext j
                rw [up2_n (by omega), r5 a h2 h3, up2_n (by omega)]
            · exact absurd c46 (by decide)
          · dsimp only [Option.toList, List.cons_append, List.nil_append]
            refine x_if_ne (tgt := 54) dX3_findError_46 (by decide) (fun c46 => ?_) (fun c46 => ?_)
            · exact absurd rfl c46
            · refine x_aload_n dX3_findError_49 rfl ?_
              refine x_get 5 hO dX3_findError_50 f_X3_27 (by first | (simp only [gK_wI]; assumption) | assumption) ⟨by decide, by decide⟩ (v := .int (nI (pCmd S n p).2.1)) (congrArg Value.int r1) ?_
              refine x_iret dX3_findError_53 rfl rfl ?_
              have hne : ¬ (pCmd S n p).2.1 = n := fun q => c35 (by rw [q])
              have eA : pAll S n (n + 1) 0 = some (pCmd S n p).2.1 := by
                rw [hEz]
                by_cases hg : (pCmd S n p).1 = true
                · rw [if_pos hg, if_neg hne, if_neg h43]
                · rw [if_neg hg]
              refine hq _ _ (by rw [eA]; rfl) ?_ ?_
              · intro j h2 h3
                rw [r4 j h2, up2_n (by omega), hf1 j h2 h3]
              · intro a h2 h3
                rw [← hf2 a h2 h3, r5 a h2 h3]
                funext j
                rw [up2_n (by omega)]
        · refine x_iconst (v := (-1)) dX3_findError_38 (by decide) ?_
          refine x_iret dX3_findError_39 rfl rfl ?_
          have hn := (nI_eq (by omega) (by omega)).mp c35
          have hg : (pCmd S n p).1 = true := by
            cases e : (pCmd S n p).1 with
            | true => rfl
            | false =>
              have hd := ((r3 e).resolve_left c19).2
              have := ch_lt (S := S) (n := n) (p := (pCmd S n p).2.1) rfl (by unfold isD at hd; omega)
              omega
          have eA : pAll S n (n + 1) 0 = none := by rw [hEz, if_pos hg, if_pos hn]
          refine hq _ _ (by rw [eA]; rfl) ?_ ?_
          · intro j h2 h3
            rw [r4 j h2, up2_n (by omega), hf1 j h2 h3]
          · intro a h2 h3
            rw [← hf2 a h2 h3, r5 a h2 h3]
            funext j
            rw [up2_n (by omega)]
      · refine x_aload_n dX3_findError_22 rfl ?_
        refine x_get 5 hO dX3_findError_23 f_X3_27 (by first | (simp only [gK_wI]; assumption) | assumption) ⟨by decide, by decide⟩ (v := .int (nI (pCmd S n p).2.1)) (congrArg Value.int r1) ?_
        refine x_iret dX3_findError_26 rfl rfl ?_
        have hg := RC_f h16 c19
        have eA : pAll S n (n + 1) 0 = some (pCmd S n p).2.1 := by
          rw [hEz, if_neg (by rw [hg]; exact Bool.false_ne_true)]
        refine hq _ _ (by rw [eA]; rfl) ?_ ?_
        · intro j h2 h3
          rw [r4 j h2, up2_n (by omega), hf1 j h2 h3]
        · intro a h2 h3
          rw [← hf2 a h2 h3, r5 a h2 h3]
          funext j
          rw [up2_n (by omega)]
  refine x_aload_n dX3_findError_0 rfl ?_
  refine x_iconst (v := nI 0) dX3_findError_1 (by decide) ?_
  refine x_putI 5 hO dX3_findError_2 f_X3_27 (fw_5_2 _) (by first | (simp only [gK_wI]; assumption) | assumption) ⟨by decide, by decide⟩ rfl rfl ?_
  refine x_iconst (v := nI 0) dX3_findError_5 (by decide) ?_
  refine x_istore_n dX3_findError_6 (by decide) ?_
  refine x_ls [(0, .ref t), (1, .int (nI 0))] ⟨rfl, rfl, trivial⟩ ?_
  exact loop _ 0 0 _ rfl (Nat.le_refl _) (Nat.zero_le _) up2_s rfl (fun j h2 h3 => up2_n (by omega)) (fun a h1 h2 => funext fun j => up2_n (by omega))

