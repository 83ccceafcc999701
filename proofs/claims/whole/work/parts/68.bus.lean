/-! the reference: each command *)-/
theorem r_readBus {G : GT} {C : AH} {Q : QT} {X : XT} {m n T l : Nat} {S : Nat → Nat} {s : PS} {ρ : Rw} (hO : GO G) (hM : MdS C m) (hT : TM (gI C) m S n s.2.1 s.1) (hn : n ≤ 120) (hS : ∀ i, i < n → S i < 256) (hp : s.2.1 ≤ n) (hV : Vr (gI C) (m + 2) ρ) (h5 : gI C m 5 = nI l) (hk : Ok T ρ) (hU : T ≤ 48000) (hq : ∀ f : Nat → Nat → Int32, TM f m S n (pN S n 0 23 4 (pN S n 0 23 3 (pN S n 1 400 2 (pN S n 0 400 1 (pN S n 10 400 0 (pW S n [117, 115] s)))))).2.1 (pN S n 0 23 4 (pN S n 0 23 3 (pN S n 1 400 2 (pN S n 0 400 1 (pN S n 10 400 0 (pW S n [117, 115] s)))))).1 → ((pN S n 0 23 4 (pN S n 0 23 3 (pN S n 1 400 2 (pN S n 0 400 1 (pN S n 10 400 0 (pW S n [117, 115] s)))))).1 = true → Vr f (m + 2) (dCmd 98 (pN S n 0 23 4 (pN S n 0 23 3 (pN S n 1 400 2 (pN S n 0 400 1 (pN S n 10 400 0 (pW S n [117, 115] s)))))).2.2 ρ).2 ∧ f m 5 = nI (if (dCmd 98 (pN S n 0 23 4 (pN S n 0 23 3 (pN S n 1 400 2 (pN S n 0 400 1 (pN S n 10 400 0 (pW S n [117, 115] s)))))).2.2 ρ).1 = true then l else l + 1)) → FT f (gI C) m → Q none (wI C f)) : Mt G M_X5_readBus [.ref m] C Q X := by
  refine Mt_of (by decide) (Nat.le_of_ble_eq_true rfl) ?_
  obtain ⟨hm0, ⟨g1, g6, g7, g8, g9, g10, g12, g13, g14, g15, g16, g17, g18⟩, k1, k2, k3, k4, k5, k6, k7, k8, k9, k10, k11, k12, k13, hmz⟩ := id hM
  obtain ⟨hW, hB⟩ := id hk
  have w1 : ρ 1 ≤ 8 := hW.1
  have w2 : ρ 2 ≤ 5 := hW.2.1
  refine x_aload_n dX5_readBus_0 rfl ?_
  refine x_bipush (v := nI 117) dX5_readBus_1 (by decide) ?_
  refine x_bipush (v := nI 115) dX5_readBus_3 (by decide) ?_
  refine x_iconst (v := (-1)) dX5_readBus_5 (by decide) ?_
  refine x_callV (As := [_, _, _]) 7 hO dX5_readBus_6 o_X5_word v_X5_word l_X5_167 ⟨by decide, by decide⟩ (by first | (simp only [gK_wI]; assumption) | assumption) ⟨by decide, by decide⟩ rfl ⟨by decide, by decide⟩ rfl rfl (Nat.le_of_ble_eq_true rfl) (r_word3 hO hM hT hn hS hp (by decide) (by decide) (fun f6 t6 w6 => ?_))
  dsimp only [Option.toList, List.cons_append, List.nil_append]
  have pW6 := (pW_le (S := S) (n := n) (w := [117, 115]) (s := s) (by decide) hp).2
  refine x_aload_n dX5_readBus_9 rfl ?_
  refine x_get 7 hO dX5_readBus_10 f_X5_16 (by first | (simp only [gK_wI]; assumption) | assumption) ⟨by decide, by decide⟩ (v := .ref (m + 3)) (congrArg va_rf g7) ?_
  refine x_iconst (v := nI 0) dX5_readBus_13 (by decide) ?_
  refine x_aload_n dX5_readBus_14 rfl ?_
  refine x_bipush (v := nI 10) dX5_readBus_15 (by decide) ?_
  refine x_sipush (v := nI 400) dX5_readBus_17 (by decide) ?_
  refine x_callV (As := [_, _]) 7 hO dX5_readBus_20 o_X5_number v_X5_number l_X5_171 ⟨by decide, by decide⟩ (by first | (simp only [gK_wI]; assumption) | assumption) ⟨by decide, by decide⟩ rfl ⟨by decide, by decide⟩ rfl rfl (Nat.le_of_ble_eq_true rfl) (r_num (s := pW S n [117, 115] s) (k := 0) hO (MdS_wI hM) t6 hn hS pW6 (by decide) (by decide) (fun r20 f20 t20 e20 w20 => ?_))
  dsimp only [Option.toList, List.cons_append, List.nil_append]
  refine x_iast 0 5 hO dX5_readBus_23 k3.1 rfl k3.2 (by decide) (by decide) ?_
  simp only [gI_wI] at w20
  try simp only [wI_wI, gI_wI]
  have t23 := TM_3 (j := 0) (v := r20) t20
  have p23 := (pN_le (S := S) (n := n) (lo := 10) (hi := 400) (k := 0) pW6).2
  refine x_aload_n dX5_readBus_24 rfl ?_
  refine x_get 7 hO dX5_readBus_25 f_X5_16 (by first | (simp only [gK_wI]; assumption) | assumption) ⟨by decide, by decide⟩ (v := .ref (m + 3)) (congrArg va_rf g7) ?_
  refine x_iconst (v := nI 1) dX5_readBus_28 (by decide) ?_
  refine x_aload_n dX5_readBus_29 rfl ?_
  refine x_iconst (v := nI 0) dX5_readBus_30 (by decide) ?_
  refine x_sipush (v := nI 400) dX5_readBus_31 (by decide) ?_
  refine x_callV (As := [_, _]) 7 hO dX5_readBus_34 o_X5_number v_X5_number l_X5_171 ⟨by decide, by decide⟩ (by first | (simp only [gK_wI]; assumption) | assumption) ⟨by decide, by decide⟩ rfl ⟨by decide, by decide⟩ rfl rfl (Nat.le_of_ble_eq_true rfl) (r_num (s := pN S n 10 400 0 (pW S n [117, 115] s)) (k := 1) hO (MdS_wI hM) t23 hn hS p23 (by decide) (by decide) (fun r34 f34 t34 e34 w34 => ?_))
  dsimp only [Option.toList, List.cons_append, List.nil_append]
  refine x_iast 1 5 hO dX5_readBus_37 k3.1 rfl k3.2 (by decide) (by decide) ?_
  simp only [gI_wI] at w34
  try simp only [wI_wI, gI_wI]
  have t37 := TM_3 (j := 1) (v := r34) t34
  have p37 := (pN_le (S := S) (n := n) (lo := 0) (hi := 400) (k := 1) p23).2
  refine x_aload_n dX5_readBus_38 rfl ?_
  refine x_get 7 hO dX5_readBus_39 f_X5_16 (by first | (simp only [gK_wI]; assumption) | assumption) ⟨by decide, by decide⟩ (v := .ref (m + 3)) (congrArg va_rf g7) ?_
  refine x_iconst (v := nI 2) dX5_readBus_42 (by decide) ?_
  refine x_aload_n dX5_readBus_43 rfl ?_
  refine x_iconst (v := nI 1) dX5_readBus_44 (by decide) ?_
  refine x_sipush (v := nI 400) dX5_readBus_45 (by decide) ?_
  refine x_callV (As := [_, _]) 7 hO dX5_readBus_48 o_X5_number v_X5_number l_X5_171 ⟨by decide, by decide⟩ (by first | (simp only [gK_wI]; assumption) | assumption) ⟨by decide, by decide⟩ rfl ⟨by decide, by decide⟩ rfl rfl (Nat.le_of_ble_eq_true rfl) (r_num (s := pN S n 0 400 1 (pN S n 10 400 0 (pW S n [117, 115] s))) (k := 2) hO (MdS_wI hM) t37 hn hS p37 (by decide) (by decide) (fun r48 f48 t48 e48 w48 => ?_))
  dsimp only [Option.toList, List.cons_append, List.nil_append]
  refine x_iast 2 5 hO dX5_readBus_51 k3.1 rfl k3.2 (by decide) (by decide) ?_
  simp only [gI_wI] at w48
  try simp only [wI_wI, gI_wI]
  have t51 := TM_3 (j := 2) (v := r48) t48
  have p51 := (pN_le (S := S) (n := n) (lo := 1) (hi := 400) (k := 2) p37).2
  refine x_aload_n dX5_readBus_52 rfl ?_
  refine x_get 7 hO dX5_readBus_53 f_X5_16 (by first | (simp only [gK_wI]; assumption) | assumption) ⟨by decide, by decide⟩ (v := .ref (m + 3)) (congrArg va_rf g7) ?_
  refine x_iconst (v := nI 3) dX5_readBus_56 (by decide) ?_
  refine x_aload_n dX5_readBus_57 rfl ?_
  refine x_iconst (v := nI 0) dX5_readBus_58 (by decide) ?_
  refine x_bipush (v := nI 23) dX5_readBus_59 (by decide) ?_
  refine x_callV (As := [_, _]) 7 hO dX5_readBus_61 o_X5_number v_X5_number l_X5_171 ⟨by decide, by decide⟩ (by first | (simp only [gK_wI]; assumption) | assumption) ⟨by decide, by decide⟩ rfl ⟨by decide, by decide⟩ rfl rfl (Nat.le_of_ble_eq_true rfl) (r_num (s := pN S n 1 400 2 (pN S n 0 400 1 (pN S n 10 400 0 (pW S n [117, 115] s)))) (k := 3) hO (MdS_wI hM) t51 hn hS p51 (by decide) (by decide) (fun r61 f61 t61 e61 w61 => ?_))
  dsimp only [Option.toList, List.cons_append, List.nil_append]
  refine x_iast 3 5 hO dX5_readBus_64 k3.1 rfl k3.2 (by decide) (by decide) ?_
  simp only [gI_wI] at w61
  try simp only [wI_wI, gI_wI]
  have t64 := TM_3 (j := 3) (v := r61) t61
  have p64 := (pN_le (S := S) (n := n) (lo := 0) (hi := 23) (k := 3) p51).2
  refine x_aload_n dX5_readBus_65 rfl ?_
  refine x_get 7 hO dX5_readBus_66 f_X5_16 (by first | (simp only [gK_wI]; assumption) | assumption) ⟨by decide, by decide⟩ (v := .ref (m + 3)) (congrArg va_rf g7) ?_
  refine x_iconst (v := nI 4) dX5_readBus_69 (by decide) ?_
  refine x_aload_n dX5_readBus_70 rfl ?_
  refine x_iconst (v := nI 0) dX5_readBus_71 (by decide) ?_
  refine x_bipush (v := nI 23) dX5_readBus_72 (by decide) ?_
  refine x_callV (As := [_, _]) 7 hO dX5_readBus_74 o_X5_number v_X5_number l_X5_171 ⟨by decide, by decide⟩ (by first | (simp only [gK_wI]; assumption) | assumption) ⟨by decide, by decide⟩ rfl ⟨by decide, by decide⟩ rfl rfl (Nat.le_of_ble_eq_true rfl) (r_num (s := pN S n 0 23 3 (pN S n 1 400 2 (pN S n 0 400 1 (pN S n 10 400 0 (pW S n [117, 115] s))))) (k := 4) hO (MdS_wI hM) t64 hn hS p64 (by decide) (by decide) (fun r74 f74 t74 e74 w74 => ?_))
  dsimp only [Option.toList, List.cons_append, List.nil_append]
  refine x_iast 4 5 hO dX5_readBus_77 k3.1 rfl k3.2 (by decide) (by decide) ?_
  simp only [gI_wI] at w74
  try simp only [wI_wI, gI_wI]
  have t77 := TM_3 (j := 4) (v := r74) t74
  have p77 := (pN_le (S := S) (n := n) (lo := 0) (hi := 23) (k := 4) p64).2
  have E : (up2 f74 (m + 3) 4 r74) (m + 3) 0 = r20 ∧ (up2 f74 (m + 3) 4 r74) (m + 3) 1 = r34 ∧ (up2 f74 (m + 3) 4 r74) (m + 3) 2 = r48 ∧ (up2 f74 (m + 3) 4 r74) (m + 3) 3 = r61 ∧ (up2 f74 (m + 3) 4 r74) (m + 3) 4 = r74 := by
    refine ⟨?_, ?_, ?_, ?_, up2_s⟩
    · rw [up2_n (by omega), w74 _ _ (by omega), up2_n (by omega), w61 _ _ (by omega), up2_n (by omega), w48 _ _ (by omega), up2_n (by omega), w34 _ _ (by omega), up2_s]
    · rw [up2_n (by omega), w74 _ _ (by omega), up2_n (by omega), w61 _ _ (by omega), up2_n (by omega), w48 _ _ (by omega), up2_s]
    · rw [up2_n (by omega), w74 _ _ (by omega), up2_n (by omega), w61 _ _ (by omega), up2_s]
    · rw [up2_n (by omega), w74 _ _ (by omega), up2_s]
  have FR : FT (up2 f74 (m + 3) 4 r74) (gI C) m := FT_t FT_3 (FT_t (FT_f w74) (FT_t FT_3 (FT_t (FT_f w61) (FT_t FT_3 (FT_t (FT_f w48) (FT_t FT_3 (FT_t (FT_f w34) (FT_t FT_3 (FT_t (FT_f w20) (FT_f w6))))))))))
  have hV9 : Vr (up2 f74 (m + 3) 4 r74) (m + 2) ρ := by
    refine Vr_to hV ?_
    rw [up2_f (by omega)]
    funext j
    rw [w74 _ _ (by omega), up2_n (by omega), w61 _ _ (by omega), up2_n (by omega), w48 _ _ (by omega), up2_n (by omega), w34 _ _ (by omega), up2_n (by omega), w20 _ _ (by omega), w6 _ _ (by omega)]
  have h59 : (up2 f74 (m + 3) 4 r74) m 5 = nI l := by
    rw [up2_n (by omega), w74 _ _ (by omega), up2_n (by omega), w61 _ _ (by omega), up2_n (by omega), w48 _ _ (by omega), up2_n (by omega), w34 _ _ (by omega), up2_n (by omega), w20 _ _ (by omega), w6 _ _ (by omega)]
    exact h5
  obtain ⟨h, hh⟩ : ∃ h, up2 f74 (m + 3) 4 r74 = h := ⟨_, rfl⟩
  rw [hh] at E FR hV9 h59 t77 ⊢
  obtain ⟨E0, E1, E2, E3, E4⟩ := E
  obtain ⟨a9, ha9⟩ : ∃ a9, (pN S n 0 23 4 (pN S n 0 23 3 (pN S n 1 400 2 (pN S n 0 400 1 (pN S n 10 400 0 (pW S n [117, 115] s)))))).2.2 = a9 := ⟨_, rfl⟩
  have FIN : (pN S n 0 23 4 (pN S n 0 23 3 (pN S n 1 400 2 (pN S n 0 400 1 (pN S n 10 400 0 (pW S n [117, 115] s)))))).1 = true → (r20 = nI (a9 0) ∧ r34 = nI (a9 1) ∧ r48 = nI (a9 2) ∧ r61 = nI (a9 3) ∧ r74 = nI (a9 4)) ∧ (10 ≤ a9 0 ∧ a9 0 ≤ 400) ∧ a9 1 ≤ 400 ∧ (1 ≤ a9 2 ∧ a9 2 ≤ 400) ∧ a9 3 ≤ 23 ∧ a9 4 ≤ 23 := fun q4 => by
    have q3 := (pN_t q4).1
    have q2 := (pN_t q3).1
    have q1 := (pN_t q2).1
    have q0 := (pN_t q1).1
    obtain ⟨l4, u4, o4⟩ := pN_k (by decide) q4
    obtain ⟨l3, u3, o3⟩ := pN_k (by decide) q3
    obtain ⟨l2, u2, o2⟩ := pN_k (by decide) q2
    obtain ⟨l1, u1, o1⟩ := pN_k (by decide) q1
    obtain ⟨l0, u0, o0⟩ := pN_k (by decide) q0
    have b4 := e74 q4
    have b3 := e61 q3
    have b2 := e48 q2
    have b1 := e34 q1
    have b0 := e20 q0
    have v3 := o4 3 (by decide)
    have v2 := (o4 2 (by decide)).trans (o3 2 (by decide))
    have v1 := ((o4 1 (by decide)).trans (o3 1 (by decide))).trans (o2 1 (by decide))
    have v0 := (((o4 0 (by decide)).trans (o3 0 (by decide))).trans (o2 0 (by decide))).trans (o1 0 (by decide))
    rw [← v3] at b3 l3 u3
    rw [← v2] at b2 l2 u2
    rw [← v1] at b1 l1 u1
    rw [← v0] at b0 l0 u0
    rw [ha9] at *
    exact ⟨⟨b0, b1, b2, b3, b4⟩, ⟨l0, u0⟩, u1, ⟨l2, u2⟩, u3, u4⟩
  rw [ha9] at hq
  
  refine x_aload_n dX5_readBus_78 rfl ?_
  refine x_aload_n dX5_readBus_79 rfl ?_
  refine x_get 7 hO dX5_readBus_80 f_X5_16 (by first | (simp only [gK_wI]; assumption) | assumption) ⟨by decide, by decide⟩ (v := .ref (m + 3)) (congrArg va_rf g7) ?_
  refine x_iconst (v := nI 1) dX5_readBus_83 (by decide) ?_
  refine x_iald 1 5 hO dX5_readBus_84 k3.1 rfl k3.2 (by decide) (by decide) ?_
  rw [show gI (wI C h) (m + 3) 1 = r34 from E1]
  refine x_aload_n dX5_readBus_85 rfl ?_
  refine x_get 7 hO dX5_readBus_86 f_X5_16 (by first | (simp only [gK_wI]; assumption) | assumption) ⟨by decide, by decide⟩ (v := .ref (m + 3)) (congrArg va_rf g7) ?_
  refine x_iconst (v := nI 0) dX5_readBus_89 (by decide) ?_
  refine x_iald 0 5 hO dX5_readBus_90 k3.1 rfl k3.2 (by decide) (by decide) ?_
  rw [show gI (wI C h) (m + 3) 0 = r20 from E0]
  refine x_icmp_gt (tgt := 124) dX5_readBus_91 (by decide) (fun c91 => ?_) (fun c91 => ?_)
  · have hno : (pN S n 0 23 4 (pN S n 0 23 3 (pN S n 1 400 2 (pN S n 0 400 1 (pN S n 10 400 0 (pW S n [117, 115] s)))))).1 = true → ¬ (a9 1 ≤ a9 0 ∧ a9 3 ≠ a9 4 ∧ ρ 1 < 8) := fun q => by
      obtain ⟨⟨i0, i1, i2, i3, i4⟩, ⟨j0, j0'⟩, j1, ⟨j2, j2'⟩, j3, j4⟩ := FIN q
      rw [i0, i1, nI_ltI (by omega) (by omega)] at c91
      omega
    refine x_iconst (v := nI 0) dX5_readBus_124 (by decide) ?_
    refine x_callV (As := [_]) 7 hO dX5_readBus_125 o_X5_goes v_X5_goes l_X5_174 ⟨by decide, by decide⟩ (by first | (simp only [gK_wI]; assumption) | assumption) ⟨by decide, by decide⟩ rfl ⟨by decide, by decide⟩ rfl rfl (Nat.le_of_ble_eq_true rfl) (r_goes (C := wI C h) (g := (pN S n 0 23 4 (pN S n 0 23 3 (pN S n 1 400 2 (pN S n 0 400 1 (pN S n 10 400 0 (pW S n [117, 115] s)))))).1) (c := false) hO (MdS_wI hM) t77.2.2.2 h59 rfl (fun r125 f125 hr125 h125 w125 => ?_))
    dsimp only [Option.toList, List.cons_append, List.nil_append]
    simp only [gI_wI] at w125
    try simp only [wI_wI, gI_wI]
    rw [Bool.not_false, Bool.and_true] at h125
    refine x_if_eq (tgt := 169) dX5_readBus_128 (by decide) (fun c128 => ?_) (fun c128 => ?_)
    · have p125 := (ite01 hr125).1 c128
      refine x_ret dX5_readBus_169 rfl ?_
      refine hq f125 (TM_5 t77 w125) (fun q => ?_) (FT_t (FT_5 w125) FR)
      obtain ⟨⟨i0, i1, i2, i3, i4⟩, ⟨j0, j0'⟩, j1, ⟨j2, j2'⟩, j3, j4⟩ := FIN q
      have hd : dCmd 98 a9 ρ = (false, ρ) := (if_pos rfl).trans (if_neg (fun z => hno q ⟨z.1.2.2.1, z.1.2.2.2.2.2.2.2, z.2⟩))
      rw [hd]
      refine ⟨Vr_to hV9 (funext fun j => w125 _ _ (by omega)), ?_⟩
      rw [h125, q]
      rfl
    · exact absurd (hr125.trans (if_neg (by rw [Bool.and_false]; exact Bool.false_ne_true))) c128
  · refine x_aload_n dX5_readBus_94 rfl ?_
    refine x_get 7 hO dX5_readBus_95 f_X5_16 (by first | (simp only [gK_wI]; assumption) | assumption) ⟨by decide, by decide⟩ (v := .ref (m + 3)) (congrArg va_rf g7) ?_
    refine x_iconst (v := nI 3) dX5_readBus_98 (by decide) ?_
    refine x_iald 3 5 hO dX5_readBus_99 k3.1 rfl k3.2 (by decide) (by decide) ?_
    rw [show gI (wI C h) (m + 3) 3 = r61 from E3]
    refine x_aload_n dX5_readBus_100 rfl ?_
    refine x_get 7 hO dX5_readBus_101 f_X5_16 (by first | (simp only [gK_wI]; assumption) | assumption) ⟨by decide, by decide⟩ (v := .ref (m + 3)) (congrArg va_rf g7) ?_
    refine x_iconst (v := nI 4) dX5_readBus_104 (by decide) ?_
    refine x_iald 4 5 hO dX5_readBus_105 k3.1 rfl k3.2 (by decide) (by decide) ?_
    rw [show gI (wI C h) (m + 3) 4 = r74 from E4]
    refine x_icmp_eq (tgt := 124) dX5_readBus_106 (by decide) (fun c106 => ?_) (fun c106 => ?_)
    · have hno : (pN S n 0 23 4 (pN S n 0 23 3 (pN S n 1 400 2 (pN S n 0 400 1 (pN S n 10 400 0 (pW S n [117, 115] s)))))).1 = true → ¬ (a9 1 ≤ a9 0 ∧ a9 3 ≠ a9 4 ∧ ρ 1 < 8) := fun q => by
        obtain ⟨⟨i0, i1, i2, i3, i4⟩, ⟨j0, j0'⟩, j1, ⟨j2, j2'⟩, j3, j4⟩ := FIN q
        rw [i3, i4, nI_eq (by omega) (by omega)] at c106
        exact fun z => z.2.1 c106
      refine x_iconst (v := nI 0) dX5_readBus_124 (by decide) ?_
      refine x_callV (As := [_]) 7 hO dX5_readBus_125 o_X5_goes v_X5_goes l_X5_174 ⟨by decide, by decide⟩ (by first | (simp only [gK_wI]; assumption) | assumption) ⟨by decide, by decide⟩ rfl ⟨by decide, by decide⟩ rfl rfl (Nat.le_of_ble_eq_true rfl) (r_goes (C := wI C h) (g := (pN S n 0 23 4 (pN S n 0 23 3 (pN S n 1 400 2 (pN S n 0 400 1 (pN S n 10 400 0 (pW S n [117, 115] s)))))).1) (c := false) hO (MdS_wI hM) t77.2.2.2 h59 rfl (fun r125 f125 hr125 h125 w125 => ?_))
      dsimp only [Option.toList, List.cons_append, List.nil_append]
      simp only [gI_wI] at w125
      try simp only [wI_wI, gI_wI]
      rw [Bool.not_false, Bool.and_true] at h125
      refine x_if_eq (tgt := 169) dX5_readBus_128 (by decide) (fun c128 => ?_) (fun c128 => ?_)
      · have p125 := (ite01 hr125).1 c128
        refine x_ret dX5_readBus_169 rfl ?_
        refine hq f125 (TM_5 t77 w125) (fun q => ?_) (FT_t (FT_5 w125) FR)
        obtain ⟨⟨i0, i1, i2, i3, i4⟩, ⟨j0, j0'⟩, j1, ⟨j2, j2'⟩, j3, j4⟩ := FIN q
        have hd : dCmd 98 a9 ρ = (false, ρ) := (if_pos rfl).trans (if_neg (fun z => hno q ⟨z.1.2.2.1, z.1.2.2.2.2.2.2.2, z.2⟩))
        rw [hd]
        refine ⟨Vr_to hV9 (funext fun j => w125 _ _ (by omega)), ?_⟩
        rw [h125, q]
        rfl
      · exact absurd (hr125.trans (if_neg (by rw [Bool.and_false]; exact Bool.false_ne_true))) c128
    · refine x_aload_n dX5_readBus_109 rfl ?_
      refine x_get 7 hO dX5_readBus_110 f_X5_13 (by first | (simp only [gK_wI]; assumption) | assumption) ⟨by decide, by decide⟩ (v := .ref (m + 2)) (congrArg va_rf g6) ?_
      refine x_iconst (v := nI 1) dX5_readBus_113 (by decide) ?_
      refine x_row 1 hO dX5_readBus_114 k2 hV9 rfl (by decide) ?_
      refine x_bipush (v := nI 8) dX5_readBus_115 (by decide) ?_
      refine x_icmp_ge (tgt := 124) dX5_readBus_117 (by decide) (fun c117 => ?_) (fun c117 => ?_)
      · simp (disch := omega) only [nI_leI] at c117
        have hno : (pN S n 0 23 4 (pN S n 0 23 3 (pN S n 1 400 2 (pN S n 0 400 1 (pN S n 10 400 0 (pW S n [117, 115] s)))))).1 = true → ¬ (a9 1 ≤ a9 0 ∧ a9 3 ≠ a9 4 ∧ ρ 1 < 8) := fun q => by
          obtain ⟨⟨i0, i1, i2, i3, i4⟩, ⟨j0, j0'⟩, j1, ⟨j2, j2'⟩, j3, j4⟩ := FIN q
          omega
        refine x_iconst (v := nI 0) dX5_readBus_124 (by decide) ?_
        refine x_callV (As := [_]) 7 hO dX5_readBus_125 o_X5_goes v_X5_goes l_X5_174 ⟨by decide, by decide⟩ (by first | (simp only [gK_wI]; assumption) | assumption) ⟨by decide, by decide⟩ rfl ⟨by decide, by decide⟩ rfl rfl (Nat.le_of_ble_eq_true rfl) (r_goes (C := wI C h) (g := (pN S n 0 23 4 (pN S n 0 23 3 (pN S n 1 400 2 (pN S n 0 400 1 (pN S n 10 400 0 (pW S n [117, 115] s)))))).1) (c := false) hO (MdS_wI hM) t77.2.2.2 h59 rfl (fun r125 f125 hr125 h125 w125 => ?_))
        dsimp only [Option.toList, List.cons_append, List.nil_append]
        simp only [gI_wI] at w125
        try simp only [wI_wI, gI_wI]
        rw [Bool.not_false, Bool.and_true] at h125
        refine x_if_eq (tgt := 169) dX5_readBus_128 (by decide) (fun c128 => ?_) (fun c128 => ?_)
        · have p125 := (ite01 hr125).1 c128
          refine x_ret dX5_readBus_169 rfl ?_
          refine hq f125 (TM_5 t77 w125) (fun q => ?_) (FT_t (FT_5 w125) FR)
          obtain ⟨⟨i0, i1, i2, i3, i4⟩, ⟨j0, j0'⟩, j1, ⟨j2, j2'⟩, j3, j4⟩ := FIN q
          have hd : dCmd 98 a9 ρ = (false, ρ) := (if_pos rfl).trans (if_neg (fun z => hno q ⟨z.1.2.2.1, z.1.2.2.2.2.2.2.2, z.2⟩))
          rw [hd]
          refine ⟨Vr_to hV9 (funext fun j => w125 _ _ (by omega)), ?_⟩
          rw [h125, q]
          rfl
        · exact absurd (hr125.trans (if_neg (by rw [Bool.and_false]; exact Bool.false_ne_true))) c128
      · simp (disch := omega) only [nI_leI] at c117
        refine x_iconst (v := nI 1) dX5_readBus_120 (by decide) ?_
        refine x_goto (tgt := 125) dX5_readBus_121 (by decide) ?_
        refine x_callV (As := [_]) 7 hO dX5_readBus_125 o_X5_goes v_X5_goes l_X5_174 ⟨by decide, by decide⟩ (by first | (simp only [gK_wI]; assumption) | assumption) ⟨by decide, by decide⟩ rfl ⟨by decide, by decide⟩ rfl rfl (Nat.le_of_ble_eq_true rfl) (r_goes (C := wI C h) (g := (pN S n 0 23 4 (pN S n 0 23 3 (pN S n 1 400 2 (pN S n 0 400 1 (pN S n 10 400 0 (pW S n [117, 115] s)))))).1) (c := true) hO (MdS_wI hM) t77.2.2.2 h59 rfl (fun r125 f125 hr125 h125 w125 => ?_))
        dsimp only [Option.toList, List.cons_append, List.nil_append]
        simp only [gI_wI] at w125
        try simp only [wI_wI, gI_wI]
        rw [Bool.and_true] at hr125
        rw [Bool.not_true, Bool.and_false] at h125
        refine x_if_eq (tgt := 169) dX5_readBus_128 (by decide) (fun c128 => ?_) (fun c128 => ?_)
        · have p125 := (ite01 hr125).1 c128
          refine x_ret dX5_readBus_169 rfl ?_
          have hgf : (pN S n 0 23 4 (pN S n 0 23 3 (pN S n 1 400 2 (pN S n 0 400 1 (pN S n 10 400 0 (pW S n [117, 115] s)))))).1 = false := by
            cases hz : (pN S n 0 23 4 (pN S n 0 23 3 (pN S n 1 400 2 (pN S n 0 400 1 (pN S n 10 400 0 (pW S n [117, 115] s)))))).1 with
            | false => rfl
            | true => rw [hz] at p125; exact absurd rfl p125
          refine hq f125 (TM_5 t77 w125) (fun q => absurd (hgf.symm.trans q) Bool.false_ne_true) (FT_t (FT_5 w125) FR)
        · have p125 := (ite01 hr125).2 c128
          obtain ⟨⟨i0, i1, i2, i3, i4⟩, ⟨j0, j0'⟩, j1, ⟨j2, j2'⟩, j3, j4⟩ := FIN p125
          have hV125 : Vr f125 (m + 2) ρ := Vr_to hV9 (funext fun j => w125 _ _ (by omega))
          rw [i0, i1, nI_ltI (by omega) (by omega)] at c91
          rw [i3, i4, nI_eq (by omega) (by omega)] at c106
          refine x_aload_n dX5_readBus_131 rfl ?_
          refine x_get 7 hO dX5_readBus_132 f_X5_13 (by first | (simp only [gK_wI]; assumption) | assumption) ⟨by decide, by decide⟩ (v := .ref (m + 2)) (congrArg va_rf g6) ?_
          refine x_aload_n dX5_readBus_135 rfl ?_
          refine x_get 7 hO dX5_readBus_136 f_X5_16 (by first | (simp only [gK_wI]; assumption) | assumption) ⟨by decide, by decide⟩ (v := .ref (m + 3)) (congrArg va_rf g7) ?_
          refine x_iconst (v := nI 0) dX5_readBus_139 (by decide) ?_
          refine x_iald 0 5 hO dX5_readBus_140 k3.1 rfl k3.2 (by decide) (by decide) ?_
          rw [show gI (wI C f125) (m + 3) 0 = r20 from (w125 _ _ (by omega)).trans E0]
          refine x_aload_n dX5_readBus_141 rfl ?_
          refine x_get 7 hO dX5_readBus_142 f_X5_16 (by first | (simp only [gK_wI]; assumption) | assumption) ⟨by decide, by decide⟩ (v := .ref (m + 3)) (congrArg va_rf g7) ?_
          refine x_iconst (v := nI 1) dX5_readBus_145 (by decide) ?_
          refine x_iald 1 5 hO dX5_readBus_146 k3.1 rfl k3.2 (by decide) (by decide) ?_
          rw [show gI (wI C f125) (m + 3) 1 = r34 from (w125 _ _ (by omega)).trans E1]
          refine x_aload_n dX5_readBus_147 rfl ?_
          refine x_get 7 hO dX5_readBus_148 f_X5_16 (by first | (simp only [gK_wI]; assumption) | assumption) ⟨by decide, by decide⟩ (v := .ref (m + 3)) (congrArg va_rf g7) ?_
          refine x_iconst (v := nI 2) dX5_readBus_151 (by decide) ?_
          refine x_iald 2 5 hO dX5_readBus_152 k3.1 rfl k3.2 (by decide) (by decide) ?_
          rw [show gI (wI C f125) (m + 3) 2 = r48 from (w125 _ _ (by omega)).trans E2]
          refine x_aload_n dX5_readBus_153 rfl ?_
          refine x_get 7 hO dX5_readBus_154 f_X5_16 (by first | (simp only [gK_wI]; assumption) | assumption) ⟨by decide, by decide⟩ (v := .ref (m + 3)) (congrArg va_rf g7) ?_
          refine x_iconst (v := nI 3) dX5_readBus_157 (by decide) ?_
          refine x_iald 3 5 hO dX5_readBus_158 k3.1 rfl k3.2 (by decide) (by decide) ?_
          rw [show gI (wI C f125) (m + 3) 3 = r61 from (w125 _ _ (by omega)).trans E3]
          refine x_aload_n dX5_readBus_159 rfl ?_
          refine x_get 7 hO dX5_readBus_160 f_X5_16 (by first | (simp only [gK_wI]; assumption) | assumption) ⟨by decide, by decide⟩ (v := .ref (m + 3)) (congrArg va_rf g7) ?_
          refine x_iconst (v := nI 4) dX5_readBus_163 (by decide) ?_
          refine x_iald 4 5 hO dX5_readBus_164 k3.1 rfl k3.2 (by decide) (by decide) ?_
          rw [show gI (wI C f125) (m + 3) 4 = r74 from (w125 _ _ (by omega)).trans E4]
          rw [i0, i1, i2, i3, i4]
          refine x_callS (As := [_, _, _, _, _, _]) hO dX5_readBus_165 o_X5_addBusIn s_X5_addBusIn l_X5_178 ⟨by decide, by decide⟩ ⟨by decide, by decide⟩ rfl rfl (Nat.le_of_ble_eq_true rfl) (r_addBusIn (C := wI C f125) hO k2 hV125 (by omega) (fun f165 v165 r165 => ?_))
          dsimp only [Option.toList, List.cons_append, List.nil_append]
          refine x_pop dX5_readBus_168 rfl ?_
          refine x_ret dX5_readBus_169 rfl ?_
          simp only [gI_wI] at r165
          try simp only [wI_wI, gI_wI]
          have hd : dCmd 98 a9 ρ = (true, addB ρ (a9 0) (a9 1) (a9 2) (a9 3) (a9 4)) := (if_pos rfl).trans (if_pos ⟨⟨j0, j0', by omega, j2, j2', by omega, by omega, c106⟩, by omega⟩)
          refine hq f165 (TM_2 (TM_5 t77 w125) (fun x q _ => r165 x q)) (fun q => ?_) (FT_t (FT_2 (fun x q _ => r165 x q)) (FT_t (FT_5 w125) FR))
          rw [hd]
          refine ⟨v165, ?_⟩
          exact (congrFun (r165 m (by omega)) 5).trans h125

