/-! the reference: the other commands *)-/
theorem r_readSet {G : GT} {C : AH} {Q : QT} {X : XT} {m n T l : Nat} {S : Nat → Nat} {s : PS} {ρ : Rw} (hO : GO G) (hM : MdS C m) (hT : TM (gI C) m S n s.2.1 s.1) (hn : n ≤ 120) (hS : ∀ i, i < n → S i < 256) (hp : s.2.1 ≤ n) (hV : Vr (gI C) (m + 2) ρ) (h5 : gI C m 5 = nI l) (hk : Ok T ρ) (hU : T ≤ 48000) (hq : ∀ f : Nat → Nat → Int32, TM f m S n (pN S n 0 999 1 (pN S n 0 5 0 (pW S n [101, 116] s))).2.1 (pN S n 0 999 1 (pN S n 0 5 0 (pW S n [101, 116] s))).1 → ((pN S n 0 999 1 (pN S n 0 5 0 (pW S n [101, 116] s))).1 = true → Vr f (m + 2) (dCmd 115 (pN S n 0 999 1 (pN S n 0 5 0 (pW S n [101, 116] s))).2.2 ρ).2 ∧ f m 5 = nI (if (dCmd 115 (pN S n 0 999 1 (pN S n 0 5 0 (pW S n [101, 116] s))).2.2 ρ).1 = true then l else l + 1)) → FT f (gI C) m → Q none (wI C f)) : Mt G M_X5_readSet [.ref m] C Q X := by
  refine Mt_of (by decide) (Nat.le_of_ble_eq_true rfl) ?_
  obtain ⟨hm0, ⟨g1, g6, g7, g8, g9, g10, g12, g13, g14, g15, g16, g17, g18⟩, k1, k2, k3, k4, k5, k6, k7, k8, k9, k10, k11, k12, k13, hmz⟩ := id hM
  refine x_aload_n dX5_readSet_0 rfl ?_
  refine x_bipush (v := nI 101) dX5_readSet_1 (by decide) ?_
  refine x_bipush (v := nI 116) dX5_readSet_3 (by decide) ?_
  refine x_iconst (v := (-1)) dX5_readSet_5 (by decide) ?_
  refine x_callV (As := [_, _, _]) 7 hO dX5_readSet_6 o_X5_word v_X5_word l_X5_167 ⟨by decide, by decide⟩ (by first | (simp only [gK_wI]; assumption) | assumption) ⟨by decide, by decide⟩ rfl ⟨by decide, by decide⟩ rfl rfl (Nat.le_of_ble_eq_true rfl) (r_word3 hO hM hT hn hS hp (by decide) (by decide) (fun f6 t6 w6 => ?_))
  dsimp only [Option.toList, List.cons_append, List.nil_append]
  have pW6 := (pW_le (S := S) (n := n) (w := [101, 116]) (s := s) (by decide) hp).2
  refine x_aload_n dX5_readSet_9 rfl ?_
  refine x_iconst (v := nI 0) dX5_readSet_10 (by decide) ?_
  refine x_iconst (v := nI 5) dX5_readSet_11 (by decide) ?_
  refine x_callV (As := [_, _]) 7 hO dX5_readSet_12 o_X5_number v_X5_number l_X5_171 ⟨by decide, by decide⟩ (by first | (simp only [gK_wI]; assumption) | assumption) ⟨by decide, by decide⟩ rfl ⟨by decide, by decide⟩ rfl rfl (Nat.le_of_ble_eq_true rfl) (r_num (C := wI C f6) (s := pW S n [101, 116] s) (k := 0) hO (MdS_wI hM) t6 hn hS pW6 (by decide) (by decide) (fun r12 f12 t12 e12 w12 => ?_))
  dsimp only [Option.toList, List.cons_append, List.nil_append]
  simp only [gI_wI] at w12
  try simp only [wI_wI, gI_wI]
  have pN12 := (pN_le (S := S) (n := n) (lo := 0) (hi := 5) (k := 0) pW6).2
  refine x_istore_n dX5_readSet_15 (by decide) ?_
  refine x_aload_n dX5_readSet_16 rfl ?_
  refine x_iconst (v := nI 0) dX5_readSet_17 (by decide) ?_
  refine x_sipush (v := nI 999) dX5_readSet_18 (by decide) ?_
  refine x_callV (As := [_, _]) 7 hO dX5_readSet_21 o_X5_number v_X5_number l_X5_171 ⟨by decide, by decide⟩ (by first | (simp only [gK_wI]; assumption) | assumption) ⟨by decide, by decide⟩ rfl ⟨by decide, by decide⟩ rfl rfl (Nat.le_of_ble_eq_true rfl) (r_num (C := wI C f12) (s := pN S n 0 5 0 (pW S n [101, 116] s)) (k := 1) hO (MdS_wI hM) t12 hn hS pN12 (by decide) (by decide) (fun r21 f21 t21 e21 w21 => ?_))
  dsimp only [Option.toList, List.cons_append, List.nil_append]
  simp only [gI_wI] at w21
  try simp only [wI_wI, gI_wI]
  have h521 : f21 m 5 = nI l := by
    rw [w21 _ _ (by omega), w12 _ _ (by omega), w6 _ _ (by omega)]
    exact h5
  refine x_istore_n dX5_readSet_24 (by decide) ?_
  refine x_aload_n dX5_readSet_25 rfl ?_
  refine x_iload_n dX5_readSet_26 rfl ?_
  refine x_iload_n dX5_readSet_27 rfl ?_
  refine x_callS (As := [_, _]) hO dX5_readSet_28 o_X5_isSetting s_X5_isSetting l_X5_182 ⟨by decide, by decide⟩ ⟨by decide, by decide⟩ rfl rfl (Nat.le_of_ble_eq_true rfl) (r_isSetting hO (fun r28 hr28 => ?_))
  dsimp only [Option.toList, List.cons_append, List.nil_append]
  refine x_callV (As := [_]) 7 hO dX5_readSet_31 o_X5_goes v_X5_goes l_X5_174 ⟨by decide, by decide⟩ (by first | (simp only [gK_wI]; assumption) | assumption) ⟨by decide, by decide⟩ rfl ⟨by decide, by decide⟩ rfl rfl (Nat.le_of_ble_eq_true rfl) (r_goes (C := wI C f21) (g := (pN S n 0 999 1 (pN S n 0 5 0 (pW S n [101, 116] s))).1) (c := decide (okS r12 r21)) hO (MdS_wI hM) t21.2.2.2 h521 (by rw [hr28]; simp only [decide_eq_true_eq]) (fun r31 f31 hr31 h31 w31 => ?_))
  dsimp only [Option.toList, List.cons_append, List.nil_append]
  simp only [gI_wI] at w31
  try simp only [wI_wI, gI_wI]
  refine x_if_eq (tgt := 47) dX5_readSet_34 (by decide) (fun c34 => ?_) (fun c34 => ?_)
  · have p31 := (ite01 hr31).1 c34
    refine x_ret dX5_readSet_47 rfl ?_
    refine hq f31 (TM_5 t21 w31) (fun q => ?_) (FT_t (FT_5 w31) (FT_t (FT_f w21) (FT_t (FT_f w12) (FT_f w6))))
    have q0 := (pN_t q).1
    obtain ⟨l1, u1, o1⟩ := pN_k (by decide) q
    obtain ⟨l0, u0, o0⟩ := pN_k (by decide) q0
    have b1 := e21 q
    have b0 := e12 q0
    rw [← o1 0 (by decide)] at b0 l0 u0
    obtain ⟨a9, ha9⟩ : ∃ a9, (pN S n 0 999 1 (pN S n 0 5 0 (pW S n [101, 116] s))).2.2 = a9 := ⟨_, rfl⟩
    rw [ha9] at b0 b1 l0 l1 u0 u1 ⊢
    rw [b0, b1] at p31 h31
    rw [q] at p31 h31
    have hno : ¬ okSN (a9 0) (a9 1) := fun z => p31 (by rw [Bool.true_and, decide_eq_true_eq]; exact (okS_i (by omega) (by omega)).mpr z)
    have hd : dCmd 115 a9 ρ = (false, ρ) := (if_neg (by decide)).trans ((if_neg (by decide)).trans ((if_neg (by decide)).trans (if_neg hno)))
    rw [hd]
    refine ⟨Vr_to hV ?_, ?_⟩
    · exact funext fun j => by
        rw [w31 _ _ (by omega), w21 _ _ (by omega), w12 _ _ (by omega), w6 _ _ (by omega)]
    · rw [h31, decide_eq_false (fun z => hno ((okS_i (by omega) (by omega)).mp z))]
      rfl
  · have p31 := (ite01 hr31).2 c34
    rw [Bool.and_eq_true, decide_eq_true_eq] at p31
    obtain ⟨q, hs⟩ := p31
    have q0 := (pN_t q).1
    obtain ⟨l1, u1, o1⟩ := pN_k (by decide) q
    obtain ⟨l0, u0, o0⟩ := pN_k (by decide) q0
    have b1 := e21 q
    have b0 := e12 q0
    rw [← o1 0 (by decide)] at b0 l0 u0
    obtain ⟨a9, ha9⟩ : ∃ a9, (pN S n 0 999 1 (pN S n 0 5 0 (pW S n [101, 116] s))).2.2 = a9 := ⟨_, rfl⟩
    rw [ha9] at b0 b1 l0 l1 u0 u1
    rw [decide_eq_true hs, q] at h31
    rw [b0, b1] at hs ⊢
    have hs := (okS_i (by omega) (by omega)).mp hs
    have hV31 : Vr f31 (m + 2) ρ := Vr_to hV (funext fun j => by
        rw [w31 _ _ (by omega), w21 _ _ (by omega), w12 _ _ (by omega), w6 _ _ (by omega)])
    refine x_aload_n dX5_readSet_37 rfl ?_
    refine x_get 7 hO dX5_readSet_38 f_X5_13 (by first | (simp only [gK_wI]; assumption) | assumption) ⟨by decide, by decide⟩ (v := .ref (m + 2)) (congrArg va_rf g6) ?_
    refine x_bipush (v := nI 7) dX5_readSet_41 (by decide) ?_
    refine x_iload_n dX5_readSet_43 rfl ?_
    refine x_iadd dX5_readSet_44 ?_
    refine x_iload_n dX5_readSet_45 rfl ?_
    refine x_rowS (7 + a9 0) (a9 1) hO dX5_readSet_46 k2 hV31 (nI_add _ _) (by omega) rfl (fun f46 v46 r46 => ?_)
    refine x_ret dX5_readSet_47 rfl ?_
    simp only [gI_wI] at r46
    try simp only [wI_wI, gI_wI]
    have hd : dCmd 115 a9 ρ = (true, stS ρ (a9 0) (a9 1)) := (if_neg (by decide)).trans ((if_neg (by decide)).trans ((if_neg (by decide)).trans (if_pos hs)))
    refine hq f46 (TM_2 (TM_5 t21 w31) (fun x q _ => r46 x q)) (fun _ => ?_) (FT_t (FT_2 (fun x q _ => r46 x q)) (FT_t (FT_5 w31) (FT_t (FT_f w21) (FT_t (FT_f w12) (FT_f w6)))))
    rw [ha9, hd]
    exact ⟨v46, (congrFun (r46 m (by omega)) 5).trans h31⟩

theorem r_readPlug {G : GT} {C : AH} {Q : QT} {X : XT} {m n T l : Nat} {S : Nat → Nat} {s : PS} {ρ : Rw} (hO : GO G) (hM : MdS C m) (hT : TM (gI C) m S n s.2.1 s.1) (hn : n ≤ 120) (hS : ∀ i, i < n → S i < 256) (hp : s.2.1 ≤ n) (hV : Vr (gI C) (m + 2) ρ) (h5 : gI C m 5 = nI l) (hk : Ok T ρ) (hU : T ≤ 48000) (hq : ∀ f : Nat → Nat → Int32, TM f m S n (pN S n 1 50 0 (pW S n [108, 117, 103] s)).2.1 (pN S n 1 50 0 (pW S n [108, 117, 103] s)).1 → ((pN S n 1 50 0 (pW S n [108, 117, 103] s)).1 = true → Vr f (m + 2) (dCmd 112 (pN S n 1 50 0 (pW S n [108, 117, 103] s)).2.2 ρ).2 ∧ f m 5 = nI (if (dCmd 112 (pN S n 1 50 0 (pW S n [108, 117, 103] s)).2.2 ρ).1 = true then l else l + 1)) → FT f (gI C) m → Q none (wI C f)) : Mt G M_X5_readRest [.ref m, .int (nI 112)] C Q X := by
  refine Mt_of (by decide) (Nat.le_of_ble_eq_true rfl) ?_
  obtain ⟨hm0, ⟨g1, g6, g7, g8, g9, g10, g12, g13, g14, g15, g16, g17, g18⟩, k1, k2, k3, k4, k5, k6, k7, k8, k9, k10, k11, k12, k13, hmz⟩ := id hM
  obtain ⟨hW, hB⟩ := id hk
  have w1 : ρ 1 ≤ 8 := hW.1
  have w2 : ρ 2 ≤ 5 := hW.2.1
  refine x_iload_n dX5_readRest_0 rfl ?_
  refine x_bipush (v := nI 112) dX5_readRest_1 (by decide) ?_
  refine x_icmp_ne (tgt := 58) dX5_readRest_3 (by decide) (fun c3 => ?_) (fun c3 => ?_)
  · exact absurd rfl c3
  · refine x_aload_n dX5_readRest_6 rfl ?_
    refine x_bipush (v := nI 108) dX5_readRest_7 (by decide) ?_
    refine x_bipush (v := nI 117) dX5_readRest_9 (by decide) ?_
    refine x_bipush (v := nI 103) dX5_readRest_11 (by decide) ?_
    refine x_callV (As := [_, _, _]) 7 hO dX5_readRest_13 o_X5_word v_X5_word l_X5_167 ⟨by decide, by decide⟩ (by first | (simp only [gK_wI]; assumption) | assumption) ⟨by decide, by decide⟩ rfl ⟨by decide, by decide⟩ rfl rfl (Nat.le_of_ble_eq_true rfl) (r_word4 hO hM hT hn hS hp (by decide) (by decide) (by decide) (fun f13 t13 w13 => ?_))
    dsimp only [Option.toList, List.cons_append, List.nil_append]
    have pW13 := (pW_le (S := S) (n := n) (w := [108, 117, 103]) (s := s) (by decide) hp).2
    refine x_aload_n dX5_readRest_16 rfl ?_
    refine x_iconst (v := nI 1) dX5_readRest_17 (by decide) ?_
    refine x_bipush (v := nI 50) dX5_readRest_18 (by decide) ?_
    refine x_callV (As := [_, _]) 7 hO dX5_readRest_20 o_X5_number v_X5_number l_X5_171 ⟨by decide, by decide⟩ (by first | (simp only [gK_wI]; assumption) | assumption) ⟨by decide, by decide⟩ rfl ⟨by decide, by decide⟩ rfl rfl (Nat.le_of_ble_eq_true rfl) (r_num (C := wI C f13) (s := pW S n [108, 117, 103] s) (k := 0) hO (MdS_wI hM) t13 hn hS pW13 (by decide) (by decide) (fun r20 f20 t20 e20 w20 => ?_))
    dsimp only [Option.toList, List.cons_append, List.nil_append]
    simp only [gI_wI] at w20
    try simp only [wI_wI, gI_wI]
    have h520 : f20 m 5 = nI l := by
      rw [w20 _ _ (by omega), w13 _ _ (by omega)]
      exact h5
    have hV20 : Vr f20 (m + 2) ρ := Vr_to hV (funext fun j => by
      rw [w20 _ _ (by omega), w13 _ _ (by omega)])
    refine x_istore_n dX5_readRest_23 (by decide) ?_
    refine x_aload_n dX5_readRest_24 rfl ?_
    refine x_aload_n dX5_readRest_25 rfl ?_
    refine x_get 7 hO dX5_readRest_26 f_X5_13 (by first | (simp only [gK_wI]; assumption) | assumption) ⟨by decide, by decide⟩ (v := .ref (m + 2)) (congrArg va_rf g6) ?_
    refine x_iconst (v := nI 2) dX5_readRest_29 (by decide) ?_
    refine x_row 2 hO dX5_readRest_30 k2 hV20 rfl (by decide) ?_
    refine x_iconst (v := nI 5) dX5_readRest_31 (by decide) ?_
    refine x_icmp_ge (tgt := 39) dX5_readRest_32 (by decide) (fun c32 => ?_) (fun c32 => ?_)
    · simp (disch := omega) only [nI_leI] at c32
      refine x_iconst (v := nI 0) dX5_readRest_39 (by decide) ?_
      refine x_callV (As := [_]) 7 hO dX5_readRest_40 o_X5_goes v_X5_goes l_X5_174 ⟨by decide, by decide⟩ (by first | (simp only [gK_wI]; assumption) | assumption) ⟨by decide, by decide⟩ rfl ⟨by decide, by decide⟩ rfl rfl (Nat.le_of_ble_eq_true rfl) (r_goes (C := wI C f20) (g := (pN S n 1 50 0 (pW S n [108, 117, 103] s)).1) (c := false) hO (MdS_wI hM) t20.2.2.2 h520 rfl (fun r40 f40 hr40 h40 w40 => ?_))
      dsimp only [Option.toList, List.cons_append, List.nil_append]
      simp only [gI_wI] at w40
      try simp only [wI_wI, gI_wI]
      refine x_if_eq (tgt := 55) dX5_readRest_43 (by decide) (fun c43 => ?_) (fun c43 => ?_)
      · have p40 := (ite01 hr40).1 c43
        refine x_goto (tgt := 92) dX5_readRest_55 (by decide) ?_
        refine x_ret dX5_readRest_92 rfl ?_
        refine hq f40 (TM_5 t20 w40) (fun q => ?_) (FT_t (FT_5 w40) (FT_t (FT_f w20) (FT_f w13)))
        have hd : dCmd 112 (pN S n 1 50 0 (pW S n [108, 117, 103] s)).2.2 ρ = (false, ρ) := (if_neg (by decide)).trans ((if_pos rfl).trans (if_neg (by omega)))
        rw [hd]
        refine ⟨Vr_to hV20 (funext fun j => w40 _ _ (by omega)), ?_⟩
        rw [h40, q]
        rfl
      · exact absurd (hr40.trans (if_neg (by rw [Bool.and_false]; exact Bool.false_ne_true))) c43
    · simp (disch := omega) only [nI_leI] at c32
      refine x_iconst (v := nI 1) dX5_readRest_35 (by decide) ?_
      refine x_goto (tgt := 40) dX5_readRest_36 (by decide) ?_
      refine x_callV (As := [_]) 7 hO dX5_readRest_40 o_X5_goes v_X5_goes l_X5_174 ⟨by decide, by decide⟩ (by first | (simp only [gK_wI]; assumption) | assumption) ⟨by decide, by decide⟩ rfl ⟨by decide, by decide⟩ rfl rfl (Nat.le_of_ble_eq_true rfl) (r_goes (C := wI C f20) (g := (pN S n 1 50 0 (pW S n [108, 117, 103] s)).1) (c := true) hO (MdS_wI hM) t20.2.2.2 h520 rfl (fun r40 f40 hr40 h40 w40 => ?_))
      dsimp only [Option.toList, List.cons_append, List.nil_append]
      simp only [gI_wI] at w40
      try simp only [wI_wI, gI_wI]
      refine x_if_eq (tgt := 55) dX5_readRest_43 (by decide) (fun c43 => ?_) (fun c43 => ?_)
      · have p40 := (ite01 hr40).1 c43
        refine x_goto (tgt := 92) dX5_readRest_55 (by decide) ?_
        refine x_ret dX5_readRest_92 rfl ?_
        refine hq f40 (TM_5 t20 w40) (fun q => ?_) (FT_t (FT_5 w40) (FT_t (FT_f w20) (FT_f w13)))
        rw [q] at p40
        exact absurd rfl p40
      · have p40 := (ite01 hr40).2 c43
        rw [Bool.and_true] at p40
        have b0 := e20 p40
        rw [b0]
        have hV40 : Vr f40 (m + 2) ρ := Vr_to hV20 (funext fun j => w40 _ _ (by omega))
        refine x_aload_n dX5_readRest_46 rfl ?_
        refine x_get 7 hO dX5_readRest_47 f_X5_13 (by first | (simp only [gK_wI]; assumption) | assumption) ⟨by decide, by decide⟩ (v := .ref (m + 2)) (congrArg va_rf g6) ?_
        refine x_iload_n dX5_readRest_50 rfl ?_
        refine x_callS (As := [_, _]) hO dX5_readRest_51 o_X5_addPlugIn s_X5_addPlugIn l_X5_186 ⟨by decide, by decide⟩ ⟨by decide, by decide⟩ rfl rfl (Nat.le_of_ble_eq_true rfl) (r_addPlugIn (C := wI C f40) hO k2 hV40 (by omega) (fun f51 v51 r51 => ?_))
        dsimp only [Option.toList, List.cons_append, List.nil_append]
        refine x_pop dX5_readRest_54 rfl ?_
        refine x_goto (tgt := 92) dX5_readRest_55 (by decide) ?_
        refine x_ret dX5_readRest_92 rfl ?_
        simp only [gI_wI] at r51
        try simp only [wI_wI, gI_wI]
        have hd : dCmd 112 (pN S n 1 50 0 (pW S n [108, 117, 103] s)).2.2 ρ = (true, addC ρ ((pN S n 1 50 0 (pW S n [108, 117, 103] s)).2.2 0)) := (if_neg (by decide)).trans ((if_pos rfl).trans (if_pos (by omega)))
        refine hq f51 (TM_2 (TM_5 t20 w40) (fun x q _ => r51 x q)) (fun q => ?_) (FT_t (FT_2 (fun x q _ => r51 x q)) (FT_t (FT_5 w40) (FT_t (FT_f w20) (FT_f w13))))
        rw [hd]
        refine ⟨v51, ?_⟩
        rw [r51 m (by omega), h40]
        rw [Bool.not_true, Bool.and_false]
        rfl

theorem r_readRun {G : GT} {C : AH} {Q : QT} {X : XT} {m n T l : Nat} {S : Nat → Nat} {s : PS} {ρ : Rw} (hO : GO G) (hM : MdS C m) (hT : TM (gI C) m S n s.2.1 s.1) (hn : n ≤ 120) (hS : ∀ i, i < n → S i < 256) (hp : s.2.1 ≤ n) (hV : Vr (gI C) (m + 2) ρ) (h5 : gI C m 5 = nI l) (hk : Ok T ρ) (hU : T ≤ 48000) (hq : ∀ f : Nat → Nat → Int32, TM f m S n (pN S n 1 48 0 (pW S n [117, 110] s)).2.1 (pN S n 1 48 0 (pW S n [117, 110] s)).1 → ((pN S n 1 48 0 (pW S n [117, 110] s)).1 = true → Vr f (m + 2) (dCmd 114 (pN S n 1 48 0 (pW S n [117, 110] s)).2.2 ρ).2 ∧ f m 5 = nI (if (dCmd 114 (pN S n 1 48 0 (pW S n [117, 110] s)).2.2 ρ).1 = true then l else l + 1)) → FT f (gI C) m → Q none (wI C f)) : Mt G M_X5_readRest [.ref m, .int (nI 114)] C Q X := by
  refine Mt_of (by decide) (Nat.le_of_ble_eq_true rfl) ?_
  obtain ⟨hm0, ⟨g1, g6, g7, g8, g9, g10, g12, g13, g14, g15, g16, g17, g18⟩, k1, k2, k3, k4, k5, k6, k7, k8, k9, k10, k11, k12, k13, hmz⟩ := id hM
  obtain ⟨hW, hB⟩ := id hk
  have w1 : ρ 1 ≤ 8 := hW.1
  have w2 : ρ 2 ≤ 5 := hW.2.1
  refine x_iload_n dX5_readRest_0 rfl ?_
  refine x_bipush (v := nI 112) dX5_readRest_1 (by decide) ?_
  refine x_icmp_ne (tgt := 58) dX5_readRest_3 (by decide) (fun c3 => ?_) (fun c3 => ?_)
  · refine x_aload_n dX5_readRest_58 rfl ?_
    refine x_bipush (v := nI 117) dX5_readRest_59 (by decide) ?_
    refine x_bipush (v := nI 110) dX5_readRest_61 (by decide) ?_
    refine x_iconst (v := (-1)) dX5_readRest_63 (by decide) ?_
    refine x_callV (As := [_, _, _]) 7 hO dX5_readRest_64 o_X5_word v_X5_word l_X5_167 ⟨by decide, by decide⟩ (by first | (simp only [gK_wI]; assumption) | assumption) ⟨by decide, by decide⟩ rfl ⟨by decide, by decide⟩ rfl rfl (Nat.le_of_ble_eq_true rfl) (r_word3 hO hM hT hn hS hp (by decide) (by decide) (fun f64 t64 w64 => ?_))
    dsimp only [Option.toList, List.cons_append, List.nil_append]
    have pW64 := (pW_le (S := S) (n := n) (w := [117, 110]) (s := s) (by decide) hp).2
    refine x_aload_n dX5_readRest_67 rfl ?_
    refine x_iconst (v := nI 1) dX5_readRest_68 (by decide) ?_
    refine x_bipush (v := nI 48) dX5_readRest_69 (by decide) ?_
    refine x_callV (As := [_, _]) 7 hO dX5_readRest_71 o_X5_number v_X5_number l_X5_171 ⟨by decide, by decide⟩ (by first | (simp only [gK_wI]; assumption) | assumption) ⟨by decide, by decide⟩ rfl ⟨by decide, by decide⟩ rfl rfl (Nat.le_of_ble_eq_true rfl) (r_num (C := wI C f64) (s := pW S n [117, 110] s) (k := 0) hO (MdS_wI hM) t64 hn hS pW64 (by decide) (by decide) (fun r71 f71 t71 e71 w71 => ?_))
    dsimp only [Option.toList, List.cons_append, List.nil_append]
    simp only [gI_wI] at w71
    try simp only [wI_wI, gI_wI]
    have hV71 : Vr f71 (m + 2) ρ := Vr_to hV (funext fun j => by
      rw [w71 _ _ (by omega), w64 _ _ (by omega)])
    refine x_istore_n dX5_readRest_74 (by decide) ?_
    refine x_aload_n dX5_readRest_75 rfl ?_
    refine x_get 7 hO dX5_readRest_76 f_X5_143 (by first | (simp only [gK_wI]; assumption) | assumption) ⟨by decide, by decide⟩ (v := .int (f71 m 4)) rfl ?_
    refine x_if_eq (tgt := 92) dX5_readRest_79 (by decide) (fun c79 => ?_) (fun c79 => ?_)
    · have p71 := (ite01 t71.2.2.2).1 c79
      refine x_ret dX5_readRest_92 rfl ?_
      refine hq f71 t71 (fun q => absurd q p71) (FT_t (FT_f w71) (FT_f w64))
    · have p71 := (ite01 t71.2.2.2).2 c79
      have b0 := e71 p71
      rw [b0]
      obtain ⟨l0, u0, -⟩ := pN_k (by decide) p71
      refine x_aload_n dX5_readRest_82 rfl ?_
      refine x_aload_n dX5_readRest_83 rfl ?_
      refine x_get 7 hO dX5_readRest_84 f_X5_13 (by first | (simp only [gK_wI]; assumption) | assumption) ⟨by decide, by decide⟩ (v := .ref (m + 2)) (congrArg va_rf g6) ?_
      refine x_iload_n dX5_readRest_87 rfl ?_
      refine x_callV (As := [_, _]) 7 hO dX5_readRest_88 o_X5_runIn v_X5_runIn l_X5_189 ⟨by decide, by decide⟩ (by first | (simp only [gK_wI]; assumption) | assumption) ⟨by decide, by decide⟩ rfl ⟨by decide, by decide⟩ rfl rfl (Nat.le_of_ble_eq_true rfl) (r_runIn (C := wI C f71) hO k2 hV71 hW hB (by omega) (MdS_wI hM) (by omega) (fun f88 v88 r88 => ?_))
      dsimp only [Option.toList, List.cons_append, List.nil_append]
      refine x_pop dX5_readRest_91 rfl ?_
      refine x_ret dX5_readRest_92 rfl ?_
      have hd : dCmd 114 (pN S n 1 48 0 (pW S n [117, 110] s)).2.2 ρ = (true, runN ((pN S n 1 48 0 (pW S n [117, 110] s)).2.2 0) ρ) := (if_neg (by decide)).trans ((if_neg (by decide)).trans (if_pos rfl))
      simp only [gI_wI] at r88
      try simp only [wI_wI, gI_wI]
      have rm := r88 m (by omega) (by omega)
      refine hq f88 (TM_of t71 (congrFun rm 2) (congrFun rm 3) (congrFun rm 4) (r88 (m + 1) (by omega) (by omega))) (fun q => ?_) (FT_t (FT_2 (fun x q1 q2 => r88 x q1 q2)) (FT_t (FT_f w71) (FT_f w64)))
      rw [hd]
      refine ⟨v88, ?_⟩
      rw [rm, w71 _ _ (by omega), w64 _ _ (by omega)]
      exact h5
  · exact absurd c3 (by decide)

