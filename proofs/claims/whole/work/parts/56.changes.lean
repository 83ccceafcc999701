/-! the reference: calls that change what is now *)-/
theorem RM_now {T U n : Nat} {S : Nat → Nat} {ρ σ : Rw} {L : List Rw} {K : Nat → Option Rw} {C : AH} {f : Nat → Nat → Int32} {m : Nat} (h : RM T C m (S, n, ρ, L, K)) (e2 : f m 2 = gI C m 2) (e11 : f m 11 = gI C m 11) (e : ∀ k, k = 1 ∨ k = 6 ∨ k = 7 ∨ k = 8 → f (m + k) = gI C (m + k)) (hV : Vr f (m + 4) σ) (hU : T ≤ U) (hσ : Ok U σ) : RM U (wI C f) m (S, n, σ, L, K) := by
  obtain ⟨⟨-, o2, o3, o4⟩, hM, a1, a2, a3, a4, a5, a6⟩ := h
  exact ⟨⟨hσ, fun τ ht => Ok_mono (o2 τ ht) hU, fun i τ ht => Ok_mono (o3 i τ ht) hU, o4⟩, hM, e2.trans a1, fun i hi => (congrFun (e 1 (by omega)) i).trans (a2 i hi), hV, e11.trans a4, fun i τ h j hj => (congrFun (e 6 (by omega)) _).trans (a5 i τ h j hj), fun i hi => ⟨fun h => (congrFun (e 8 (by omega)) i).trans ((a6 i hi).1 h), fun τ h => ⟨(congrFun (e 8 (by omega)) i).trans ((a6 i hi).2 τ h).1, fun j hj => (congrFun (e 7 (by omega)) _).trans (((a6 i hi).2 τ h).2 j hj)⟩⟩⟩
theorem RM_text {T n n' : Nat} {S S' : Nat → Nat} {ρ : Rw} {L : List Rw} {K : Nat → Option Rw} {C : AH} {f : Nat → Nat → Int32} {m : Nat} (h : RM T C m (S, n, ρ, L, K)) (e2 : f m 2 = nI n') (eS : ∀ i, i < n' → f (m + 1) i = nI (S' i)) (e11 : f m 11 = gI C m 11) (e : ∀ k, k = 4 ∨ k = 6 ∨ k = 7 ∨ k = 8 → f (m + k) = gI C (m + k)) (hn : n' ≤ 120) (hS : ∀ i, i < n' → S' i < 256) : RM T (wI C f) m (S', n', ρ, L, K) := by
  obtain ⟨⟨o1, o2, o3, -, -, o6⟩, hM, a1, a2, a3, a4, a5, a6⟩ := h
  exact ⟨⟨o1, o2, o3, hn, hS, o6⟩, hM, e2, eS, Vr_to a3 (e 4 (by omega)), e11.trans a4, fun i τ h j hj => (congrFun (e 6 (by omega)) _).trans (a5 i τ h j hj), fun i hi => ⟨fun h => (congrFun (e 8 (by omega)) i).trans ((a6 i hi).1 h), fun τ h => ⟨(congrFun (e 8 (by omega)) i).trans ((a6 i hi).2 τ h).1, fun j hj => (congrFun (e 7 (by omega)) _).trans (((a6 i hi).2 τ h).2 j hj)⟩⟩⟩
theorem RM_hist {T U n : Nat} {S : Nat → Nat} {ρ σ : Rw} {L L' : List Rw} {K : Nat → Option Rw} {C : AH} {f : Nat → Nat → Int32} {m : Nat} (h : RM T C m (S, n, ρ, L, K)) (e2 : f m 2 = gI C m 2) (e11 : f m 11 = nI L'.length) (e : ∀ k, k = 1 ∨ k = 7 ∨ k = 8 → f (m + k) = gI C (m + k)) (hV : Vr f (m + 4) σ) (hU : T ≤ U) (hσ : Ok U σ) (hL : L'.length ≤ 14) (hO : ∀ τ, τ ∈ L' → Ok U τ) (hH : ∀ i τ, L'[i]? = some τ → Vo f (m + 6) (74 * i) τ) : RM U (wI C f) m (S, n, σ, L', K) := by
  obtain ⟨⟨-, o2, o3, o4, o5, o6⟩, hM, a1, a2, a3, a4, a5, a6⟩ := h
  exact ⟨⟨hσ, hO, fun i τ ht => Ok_mono (o3 i τ ht) hU, o4, o5, hL⟩, hM, e2.trans a1, fun i hi => (congrFun (e 1 (by omega)) i).trans (a2 i hi), hV, e11, hH, fun i hi => ⟨fun h => (congrFun (e 8 (by omega)) i).trans ((a6 i hi).1 h), fun τ h => ⟨(congrFun (e 8 (by omega)) i).trans ((a6 i hi).2 τ h).1, fun j hj => (congrFun (e 7 (by omega)) _).trans (((a6 i hi).2 τ h).2 j hj)⟩⟩⟩
theorem r_isBus {G : GT} {C : AH} {Q : QT} {X : XT} {ρ : Rw} {b : Int32} {m : Nat} (hO : GO G) (hM : MdS C m) (hV : Vr (gI C) (m + 4) ρ) (hq : ∀ r : Int32, r = (if isB ρ b then 1 else 0) → Q (some (.int r)) C) : Mt G M_X5_isBus [.ref m, .int b] C Q X := by
  refine Mt_of (by decide) (Nat.le_of_ble_eq_true rfl) ?_
  obtain ⟨hm0, ⟨g1, g6, g7, g8, g9, g10, g12, g13, g14, g15, g16, g17, g18⟩, k1, k2, k3, k4, k5, k6, k7, k8, k9, k10, k11, k12, k13, hmz⟩ := id hM
  refine x_iload_n dX5_isBus_0 rfl ?_
  refine x_i2l dX5_isBus_1 ?_
  refine x_lconst (v := 0) dX5_isBus_2 (by decide) ?_
  refine x_aload_n dX5_isBus_3 rfl ?_
  refine x_get 7 hO dX5_isBus_4 f_X5_19 (by first | (simp only [gK_wI]; assumption) | assumption) ⟨by decide, by decide⟩ (v := .ref (m + 4)) (congrArg va_rf g8) ?_
  refine x_iconst (v := nI 1) dX5_isBus_7 (by decide) ?_
  refine x_row _ hO dX5_isBus_8 k4 hV rfl (by omega) ?_
  refine x_iconst (v := nI 1) dX5_isBus_9 (by decide) ?_
  refine x_isub dX5_isBus_10 ?_
  refine x_i2l dX5_isBus_11 ?_
  refine x_callS (As := [_, _, _]) hO dX5_isBus_12 o_X5_in s_X5_in l_X5_118 ⟨by decide, by decide⟩ ⟨by decide, by decide⟩ rfl rfl (Nat.le_of_ble_eq_true rfl) (r_inI (a := nI 0) (b := _) hO (by decide) rfl (fun r12 hr12 => ?_))
  dsimp only [Option.toList, List.cons_append, List.nil_append]
  refine x_iret dX5_isBus_15 rfl (nrb hr12) ?_
  exact hq _ hr12
theorem r_isPlug {G : GT} {C : AH} {Q : QT} {X : XT} {ρ : Rw} {b : Int32} {m : Nat} (hO : GO G) (hM : MdS C m) (hV : Vr (gI C) (m + 4) ρ) (hq : ∀ r : Int32, r = (if isC ρ b then 1 else 0) → Q (some (.int r)) C) : Mt G M_X5_isPlug [.ref m, .int b] C Q X := by
  refine Mt_of (by decide) (Nat.le_of_ble_eq_true rfl) ?_
  obtain ⟨hm0, ⟨g1, g6, g7, g8, g9, g10, g12, g13, g14, g15, g16, g17, g18⟩, k1, k2, k3, k4, k5, k6, k7, k8, k9, k10, k11, k12, k13, hmz⟩ := id hM
  refine x_iload_n dX5_isPlug_0 rfl ?_
  refine x_i2l dX5_isPlug_1 ?_
  refine x_lconst (v := 0) dX5_isPlug_2 (by decide) ?_
  refine x_aload_n dX5_isPlug_3 rfl ?_
  refine x_get 7 hO dX5_isPlug_4 f_X5_19 (by first | (simp only [gK_wI]; assumption) | assumption) ⟨by decide, by decide⟩ (v := .ref (m + 4)) (congrArg va_rf g8) ?_
  refine x_iconst (v := nI 2) dX5_isPlug_7 (by decide) ?_
  refine x_row _ hO dX5_isPlug_8 k4 hV rfl (by omega) ?_
  refine x_iconst (v := nI 1) dX5_isPlug_9 (by decide) ?_
  refine x_isub dX5_isPlug_10 ?_
  refine x_i2l dX5_isPlug_11 ?_
  refine x_callS (As := [_, _, _]) hO dX5_isPlug_12 o_X5_in s_X5_in l_X5_118 ⟨by decide, by decide⟩ ⟨by decide, by decide⟩ rfl rfl (Nat.le_of_ble_eq_true rfl) (r_inI (a := nI 0) (b := _) hO (by decide) rfl (fun r12 hr12 => ?_))
  dsimp only [Option.toList, List.cons_append, List.nil_append]
  refine x_iret dX5_isPlug_15 rfl (nrb hr12) ?_
  exact hq _ hr12

theorem r_append {G : GT} {C : AH} {Q : QT} {X : XT} {m T n : Nat} {S : Nat → Nat} {ρ : Rw} {L : List Rw} {K : Nat → Option Rw} {c : Int32} (hO : GO G) (hT : T ≤ 40000) (hR : RM T C m (S, n, ρ, L, K)) (hq : ∀ (r : Int32) (f : Nat → Nat → Int32), RM (T) (wI C f) m (aAppend (S, n, ρ, L, K) c).2.2 → (∀ a, (a < m ∨ m + 14 ≤ a) → f a = gI C a) → f m 0 = nI (aAppend (S, n, ρ, L, K) c).1 → ((aAppend (S, n, ρ, L, K) c).1 = 0 → r = (aAppend (S, n, ρ, L, K) c).2.1) → Q (some (.int r)) (wI C f)) : Mt G M_X5_append [.ref m, .int c] C Q X := by
  refine Mt_of (by decide) (Nat.le_of_ble_eq_true rfl) ?_
  obtain ⟨hk, hM, hv⟩ := id hR
  obtain ⟨hm0, ⟨g1, g6, g7, g8, g9, g10, g12, g13, g14, g15, g16, g17, g18⟩, k1, k2, k3, k4, k5, k6, k7, k8, k9, k10, k11, k12, k13, hmz⟩ := id hM
  obtain ⟨vn, vS, vN, vA, vH, vK⟩ : gI C m 2 = nI n ∧ (∀ i, i < n → gI C (m + 1) i = nI (S i)) ∧ Vr (gI C) (m + 4) ρ ∧ gI C m 11 = nI L.length ∧ (∀ i σ, L[i]? = some σ → Vo (gI C) (m + 6) (74 * i) σ) ∧ ∀ i, i < 2 → (K i = none → gI C (m + 8) i = 0) ∧ ∀ σ, K i = some σ → gI C (m + 8) i = 1 ∧ Vo (gI C) (m + 7) (74 * i) σ := hv
  obtain ⟨ok1, ok2, ok3, ok4, ok5, ok6⟩ : Ok T ρ ∧ (∀ σ, σ ∈ L → Ok T σ) ∧ (∀ i σ, K i = some σ → Ok T σ) ∧ n ≤ 120 ∧ (∀ i, i < n → S i < 256) ∧ L.length ≤ 14 := hk
  obtain ⟨hW, hB⟩ := id ok1
  obtain ⟨hb0, hb3, hb4, hb5, hb6, hb7⟩ := id hB
  obtain ⟨w1, w2, w7, w8, w9, w10, w11, w11', w12, wB, wP⟩ := id hW
  refine x_aload_n dX5_append_0 rfl ?_
  refine x_iload_n dX5_append_1 rfl ?_
  refine x_i2l dX5_append_2 ?_
  refine x_lconst (v := 0) dX5_append_3 (by decide) ?_
  refine x_ldc2 hO.1 dX5_append_4 k_X5_132 ?_
  refine x_callS (As := [_, _, _]) hO dX5_append_7 o_X5_in s_X5_in l_X5_118 ⟨by decide, by decide⟩ ⟨by decide, by decide⟩ rfl rfl (Nat.le_of_ble_eq_true rfl) (r_inI (a := nI 0) (b := nI 255) hO (by decide) (by decide) (fun r7 hr7 => ?_))
  dsimp only [Option.toList, List.cons_append, List.nil_append]
  refine x_if_ne (tgt := 17) dX5_append_10 (by decide) (fun c10 => ?_) (fun c10 => ?_)
  · have p7 := (ite01 hr7).2 c10
    refine x_aload_n dX5_append_17 rfl ?_
    refine x_get 7 hO dX5_append_18 f_X5_134 (by first | (simp only [gK_wI]; assumption) | assumption) ⟨by decide, by decide⟩ (v := .int (nI n)) (congrArg Value.int vn) ?_
    refine x_bipush (v := nI 120) dX5_append_21 (by decide) ?_
    refine x_icmp_ne (tgt := 30) dX5_append_23 (by decide) (fun c23 => ?_) (fun c23 => ?_)
    · refine x_iconst (v := nI 0) dX5_append_30 (by decide) ?_
      refine x_callV (As := [_]) 7 hO dX5_append_31 o_X5_refused v_X5_refused l_X5_137 ⟨by decide, by decide⟩ (by first | (simp only [gK_wI]; assumption) | assumption) ⟨by decide, by decide⟩ rfl ⟨by decide, by decide⟩ rfl rfl (Nat.le_of_ble_eq_true rfl) (t_ref hO hR (by decide) (fun r31 f31 hr31 z31 hR1 fr31 => ?_))
      dsimp only [Option.toList, List.cons_append, List.nil_append]
      refine x_if_eq (tgt := 39) dX5_append_34 (by decide) (fun c34 => ?_) (fun c34 => ?_)
      · have p31 := (ite01 hr31).1 c34
        obtain ⟨k, y0, y9, rfl⟩ := (rng (by decide) (by decide)).mp p7
        obtain ⟨hk, hM, hv⟩ := id hR1
        obtain ⟨hm0, ⟨g1, g6, g7, g8, g9, g10, g12, g13, g14, g15, g16, g17, g18⟩, k1, k2, k3, k4, k5, k6, k7, k8, k9, k10, k11, k12, k13, hmz⟩ := id hM
        obtain ⟨vn, vS, vN, vA, vH, vK⟩ : f31 m 2 = nI n ∧ (∀ i, i < n → f31 (m + 1) i = nI (S i)) ∧ Vr (f31) (m + 4) ρ ∧ f31 m 11 = nI L.length ∧ (∀ i σ, L[i]? = some σ → Vo (f31) (m + 6) (74 * i) σ) ∧ ∀ i, i < 2 → (K i = none → f31 (m + 8) i = 0) ∧ ∀ σ, K i = some σ → f31 (m + 8) i = 1 ∧ Vo (f31) (m + 7) (74 * i) σ := hv
        obtain ⟨ok1, ok2, ok3, ok4, ok5, ok6⟩ : Ok T ρ ∧ (∀ σ, σ ∈ L → Ok T σ) ∧ (∀ i σ, K i = some σ → Ok T σ) ∧ n ≤ 120 ∧ (∀ i, i < n → S i < 256) ∧ L.length ≤ 14 := hk
        obtain ⟨hW, hB⟩ := id ok1
        obtain ⟨hb0, hb3, hb4, hb5, hb6, hb7⟩ := id hB
        obtain ⟨w1, w2, w7, w8, w9, w10, w11, w11', w12, wB, wP⟩ := id hW
        have hn9 : n ≠ 120 := fun e => c23 (by rw [e])
        have eA : aAppend (S, n, ρ, L, K) (nI k) = (0, nI (n + 1), (uN S n k, n + 1, ρ, L, K)) := by
          unfold aAppend
          rw [if_pos p7, nI_clamp (by omega)]
          exact if_neg hn9
        refine x_aload_n dX5_append_39 rfl ?_
        refine x_get 7 hO dX5_append_40 f_X5_7 (by first | (simp only [gK_wI]; assumption) | assumption) ⟨by decide, by decide⟩ (v := .ref (m + 1)) (congrArg va_rf g1) ?_
        refine x_aload_n dX5_append_43 rfl ?_
        refine x_get 7 hO dX5_append_44 f_X5_134 (by first | (simp only [gK_wI]; assumption) | assumption) ⟨by decide, by decide⟩ (v := .int (nI n)) (congrArg Value.int vn) ?_
        refine x_iload_n dX5_append_47 rfl ?_
        refine x_iast n 120 hO dX5_append_48 k1.1 rfl k1.2 (by omega) (by decide) ?_
        try simp only [wI_wI, gI_wI]
        refine x_aload_n dX5_append_49 rfl ?_
        refine x_dup dX5_append_50 rfl ?_
        refine x_get 7 hO dX5_append_51 f_X5_134 (by first | (simp only [gK_wI]; assumption) | assumption) ⟨by decide, by decide⟩ (v := .int (nI n)) (congrArg Value.int ((congrFun (up2_f (by omega)) 2).trans vn)) ?_
        refine x_iconst (v := nI 1) dX5_append_54 (by decide) ?_
        refine x_iadd dX5_append_55 ?_
        rw [nI_add]
        refine x_putI 7 hO dX5_append_56 f_X5_134 (fw_7_2 _) (by first | (simp only [gK_wI]; assumption) | assumption) ⟨by decide, by decide⟩ rfl rfl ?_
        refine x_aload_n dX5_append_59 rfl ?_
        refine x_get 7 hO dX5_append_60 f_X5_134 (by first | (simp only [gK_wI]; assumption) | assumption) ⟨by decide, by decide⟩ (v := .int (nI (n + 1))) (congrArg Value.int up2_s) ?_
        refine x_iret dX5_append_63 rfl rfl ?_
        try simp only [wI_wI, gI_wI]
        refine hq _ _ ?_ (fun a ha => ?_) ?_ ?_
        · rw [eA]
          refine RM_text (C := wI C f31) hR1 (f := up2 (up2 f31 (m + 1) n (nI k)) m 2 (nI (n + 1))) up2_s (fun i hi => ?_) ?_ (fun k hk => ?_) (by omega) (fun i hi => ?_)
          · rw [up2_f (by omega)]
            by_cases e : i = n
            · subst e; rw [up2_s, uN_s]
            · rw [up2_n (fun h => e h.2), uN_n e]; exact vS i (by omega)
          · rw [up2_n (by omega), up2_f (by omega)]
            rfl
          · rw [up2_f (by omega), up2_f (by omega)]
            rfl
          · by_cases e : i = n
            · subst e; rw [uN_s]; omega
            · rw [uN_n e]; exact ok5 i (by omega)
        · rw [up2_f (by omega), up2_f (by omega)]
          exact fr31 a (by omega)
        · rw [eA]
          exact (up2_n (by omega)).trans ((congrFun (up2_f (by omega)) 0).trans z31)
        · rw [eA]
          exact fun _ => rfl
      · exact absurd (hr31.trans (if_neg (by decide))) c34
    · refine x_iconst (v := nI 2) dX5_append_26 (by decide) ?_
      refine x_goto (tgt := 31) dX5_append_27 (by decide) ?_
      refine x_callV (As := [_]) 7 hO dX5_append_31 o_X5_refused v_X5_refused l_X5_137 ⟨by decide, by decide⟩ (by first | (simp only [gK_wI]; assumption) | assumption) ⟨by decide, by decide⟩ rfl ⟨by decide, by decide⟩ rfl rfl (Nat.le_of_ble_eq_true rfl) (t_ref hO hR (by decide) (fun r31 f31 hr31 z31 hR1 fr31 => ?_))
      dsimp only [Option.toList, List.cons_append, List.nil_append]
      refine x_if_eq (tgt := 39) dX5_append_34 (by decide) (fun c34 => ?_) (fun c34 => ?_)
      · exact absurd (c34.symm.trans (hr31.trans (if_pos (by decide)))) (by decide)
      · have p31 := (ite01 hr31).2 c34
        refine x_iconst (v := nI 0) dX5_append_37 (by decide) ?_
        refine x_iret dX5_append_38 rfl rfl ?_
        have eA : aAppend (S, n, ρ, L, K) c = (2, 0, (S, n, ρ, L, K)) := (if_pos p7).trans (if_pos ((nI_eq (by omega) (by decide)).mp c23))
        refine hq _ f31 ?_ (fun a ha => fr31 a (by omega)) ?_ ?_
        · rw [eA]
          exact hR1
        · rw [eA]
          exact z31
        · rw [eA]
          exact fun h => absurd h (Nat.succ_ne_zero _)
  · have p7 := (ite01 hr7).1 c10
    refine x_iconst (v := nI 1) dX5_append_13 (by decide) ?_
    refine x_goto (tgt := 31) dX5_append_14 (by decide) ?_
    refine x_callV (As := [_]) 7 hO dX5_append_31 o_X5_refused v_X5_refused l_X5_137 ⟨by decide, by decide⟩ (by first | (simp only [gK_wI]; assumption) | assumption) ⟨by decide, by decide⟩ rfl ⟨by decide, by decide⟩ rfl rfl (Nat.le_of_ble_eq_true rfl) (t_ref hO hR (by decide) (fun r31 f31 hr31 z31 hR1 fr31 => ?_))
    dsimp only [Option.toList, List.cons_append, List.nil_append]
    refine x_if_eq (tgt := 39) dX5_append_34 (by decide) (fun c34 => ?_) (fun c34 => ?_)
    · exact absurd (c34.symm.trans (hr31.trans (if_pos (by decide)))) (by decide)
    · have p31 := (ite01 hr31).2 c34
      refine x_iconst (v := nI 0) dX5_append_37 (by decide) ?_
      refine x_iret dX5_append_38 rfl rfl ?_
      have eA : aAppend (S, n, ρ, L, K) c = (1, 0, (S, n, ρ, L, K)) := if_neg p7
      refine hq _ f31 ?_ (fun a ha => fr31 a (by omega)) ?_ ?_
      · rw [eA]
        exact hR1
      · rw [eA]
        exact z31
      · rw [eA]
        exact fun h => absurd h (Nat.succ_ne_zero _)

theorem r_clearText {G : GT} {C : AH} {Q : QT} {X : XT} {m T n : Nat} {S : Nat → Nat} {ρ : Rw} {L : List Rw} {K : Nat → Option Rw} (hO : GO G) (hT : T ≤ 40000) (hR : RM T C m (S, n, ρ, L, K)) (hq : ∀ (r : Int32) (f : Nat → Nat → Int32), RM (T) (wI C f) m (aClear (S, n, ρ, L, K)).2.2 → (∀ a, (a < m ∨ m + 14 ≤ a) → f a = gI C a) → f m 0 = nI (aClear (S, n, ρ, L, K)).1 → ((aClear (S, n, ρ, L, K)).1 = 0 → r = (aClear (S, n, ρ, L, K)).2.1) → Q (some (.int r)) (wI C f)) : Mt G M_X5_clearText [.ref m] C Q X := by
  refine Mt_of (by decide) (Nat.le_of_ble_eq_true rfl) ?_
  obtain ⟨hk, hM, hv⟩ := id hR
  obtain ⟨hm0, ⟨g1, g6, g7, g8, g9, g10, g12, g13, g14, g15, g16, g17, g18⟩, k1, k2, k3, k4, k5, k6, k7, k8, k9, k10, k11, k12, k13, hmz⟩ := id hM
  obtain ⟨vn, vS, vN, vA, vH, vK⟩ : gI C m 2 = nI n ∧ (∀ i, i < n → gI C (m + 1) i = nI (S i)) ∧ Vr (gI C) (m + 4) ρ ∧ gI C m 11 = nI L.length ∧ (∀ i σ, L[i]? = some σ → Vo (gI C) (m + 6) (74 * i) σ) ∧ ∀ i, i < 2 → (K i = none → gI C (m + 8) i = 0) ∧ ∀ σ, K i = some σ → gI C (m + 8) i = 1 ∧ Vo (gI C) (m + 7) (74 * i) σ := hv
  obtain ⟨ok1, ok2, ok3, ok4, ok5, ok6⟩ : Ok T ρ ∧ (∀ σ, σ ∈ L → Ok T σ) ∧ (∀ i σ, K i = some σ → Ok T σ) ∧ n ≤ 120 ∧ (∀ i, i < n → S i < 256) ∧ L.length ≤ 14 := hk
  obtain ⟨hW, hB⟩ := id ok1
  obtain ⟨hb0, hb3, hb4, hb5, hb6, hb7⟩ := id hB
  obtain ⟨w1, w2, w7, w8, w9, w10, w11, w11', w12, wB, wP⟩ := id hW
  refine x_aload_n dX5_clearText_0 rfl ?_
  refine x_iconst (v := nI 0) dX5_clearText_1 (by decide) ?_
  refine x_putI 7 hO dX5_clearText_2 f_X5_54 (fw_7_0 _) (by first | (simp only [gK_wI]; assumption) | assumption) ⟨by decide, by decide⟩ rfl rfl ?_
  refine x_aload_n dX5_clearText_5 rfl ?_
  refine x_get 7 hO dX5_clearText_6 f_X5_134 (by first | (simp only [gK_wI]; assumption) | assumption) ⟨by decide, by decide⟩ (v := .int (nI n)) (congrArg Value.int ((up2_n (by omega)).trans vn)) ?_
  refine x_istore_n dX5_clearText_9 (by decide) ?_
  refine x_aload_n dX5_clearText_10 rfl ?_
  refine x_iconst (v := nI 0) dX5_clearText_11 (by decide) ?_
  try simp only [wI_wI, gI_wI]
  refine x_putI 7 hO dX5_clearText_12 f_X5_134 (fw_7_2 _) (by first | (simp only [gK_wI]; assumption) | assumption) ⟨by decide, by decide⟩ rfl rfl ?_
  refine x_iload_n dX5_clearText_15 rfl ?_
  refine x_iret dX5_clearText_16 rfl rfl ?_
  try simp only [wI_wI, gI_wI]
  have eA : aClear (S, n, ρ, L, K) = (0, nI n, (S, 0, ρ, L, K)) := rfl
  refine hq _ _ ?_ (fun a ha => ?_) ?_ ?_
  · rw [eA]
    refine RM_text (C := C) hR (f := up2 (up2 (gI C) m 0 (nI 0)) m 2 (nI 0)) up2_s (fun i hi => absurd hi (Nat.not_lt_zero i)) ?_ (fun k hk => ?_) (by decide) (fun i hi => absurd hi (Nat.not_lt_zero i))
    · rw [up2_n (by omega), up2_n (by omega)]
    · rw [up2_f (by omega), up2_f (by omega)]
  · rw [up2_f (by omega), up2_f (by omega)]
  · rw [eA]
    exact (up2_n (by omega)).trans up2_s
  · rw [eA]
    exact fun _ => rfl

theorem r_setting {G : GT} {C : AH} {Q : QT} {X : XT} {m T n : Nat} {S : Nat → Nat} {ρ : Rw} {L : List Rw} {K : Nat → Option Rw} {w : Int32} (hO : GO G) (hT : T ≤ 40000) (hR : RM T C m (S, n, ρ, L, K)) (hq : ∀ (r : Int32) (f : Nat → Nat → Int32), RM (T) (wI C f) m (aSetting (S, n, ρ, L, K) w).2.2 → (∀ a, (a < m ∨ m + 14 ≤ a) → f a = gI C a) → f m 0 = nI (aSetting (S, n, ρ, L, K) w).1 → ((aSetting (S, n, ρ, L, K) w).1 = 0 → r = (aSetting (S, n, ρ, L, K) w).2.1) → Q (some (.int r)) (wI C f)) : Mt G M_X5_setting [.ref m, .int w] C Q X := by
  refine Mt_of (by decide) (Nat.le_of_ble_eq_true rfl) ?_
  obtain ⟨hk, hM, hv⟩ := id hR
  obtain ⟨hm0, ⟨g1, g6, g7, g8, g9, g10, g12, g13, g14, g15, g16, g17, g18⟩, k1, k2, k3, k4, k5, k6, k7, k8, k9, k10, k11, k12, k13, hmz⟩ := id hM
  obtain ⟨vn, vS, vN, vA, vH, vK⟩ : gI C m 2 = nI n ∧ (∀ i, i < n → gI C (m + 1) i = nI (S i)) ∧ Vr (gI C) (m + 4) ρ ∧ gI C m 11 = nI L.length ∧ (∀ i σ, L[i]? = some σ → Vo (gI C) (m + 6) (74 * i) σ) ∧ ∀ i, i < 2 → (K i = none → gI C (m + 8) i = 0) ∧ ∀ σ, K i = some σ → gI C (m + 8) i = 1 ∧ Vo (gI C) (m + 7) (74 * i) σ := hv
  obtain ⟨ok1, ok2, ok3, ok4, ok5, ok6⟩ : Ok T ρ ∧ (∀ σ, σ ∈ L → Ok T σ) ∧ (∀ i σ, K i = some σ → Ok T σ) ∧ n ≤ 120 ∧ (∀ i, i < n → S i < 256) ∧ L.length ≤ 14 := hk
  obtain ⟨hW, hB⟩ := id ok1
  obtain ⟨hb0, hb3, hb4, hb5, hb6, hb7⟩ := id hB
  obtain ⟨w1, w2, w7, w8, w9, w10, w11, w11', w12, wB, wP⟩ := id hW
  refine x_aload_n dX5_setting_0 rfl ?_
  refine x_iload_n dX5_setting_1 rfl ?_
  refine x_i2l dX5_setting_2 ?_
  refine x_lconst (v := 0) dX5_setting_3 (by decide) ?_
  refine x_ldc2 hO.1 dX5_setting_4 k_X5_130 ?_
  refine x_callS (As := [_, _, _]) hO dX5_setting_7 o_X5_in s_X5_in l_X5_118 ⟨by decide, by decide⟩ ⟨by decide, by decide⟩ rfl rfl (Nat.le_of_ble_eq_true rfl) (r_inI (a := nI 0) (b := nI 5) hO (by decide) (by decide) (fun r7 hr7 => ?_))
  dsimp only [Option.toList, List.cons_append, List.nil_append]
  refine x_if_eq (tgt := 17) dX5_setting_10 (by decide) (fun c10 => ?_) (fun c10 => ?_)
  · have p7 := (ite01 hr7).1 c10
    refine x_iconst (v := nI 1) dX5_setting_17 (by decide) ?_
    refine x_callV (As := [_]) 7 hO dX5_setting_18 o_X5_refused v_X5_refused l_X5_137 ⟨by decide, by decide⟩ (by first | (simp only [gK_wI]; assumption) | assumption) ⟨by decide, by decide⟩ rfl ⟨by decide, by decide⟩ rfl rfl (Nat.le_of_ble_eq_true rfl) (t_ref hO hR (by decide) (fun r18 f18 hr18 z18 hR1 fr18 => ?_))
    dsimp only [Option.toList, List.cons_append, List.nil_append]
    refine x_if_eq (tgt := 26) dX5_setting_21 (by decide) (fun c21 => ?_) (fun c21 => ?_)
    · exact absurd (c21.symm.trans (hr18.trans (if_pos (by decide)))) (by decide)
    · have p18 := (ite01 hr18).2 c21
      refine x_iconst (v := nI 0) dX5_setting_24 (by decide) ?_
      refine x_iret dX5_setting_25 rfl rfl ?_
      have eA : aSetting (S, n, ρ, L, K) w = (1, 0, (S, n, ρ, L, K)) := if_neg p7
      refine hq _ f18 ?_ (fun a ha => fr18 a (by omega)) ?_ ?_
      · rw [eA]
        exact hR1
      · rw [eA]
        exact z18
      · rw [eA]
        exact fun h => absurd h (Nat.succ_ne_zero _)
  · have p7 := (ite01 hr7).2 c10
    refine x_iconst (v := nI 0) dX5_setting_13 (by decide) ?_
    refine x_goto (tgt := 18) dX5_setting_14 (by decide) ?_
    refine x_callV (As := [_]) 7 hO dX5_setting_18 o_X5_refused v_X5_refused l_X5_137 ⟨by decide, by decide⟩ (by first | (simp only [gK_wI]; assumption) | assumption) ⟨by decide, by decide⟩ rfl ⟨by decide, by decide⟩ rfl rfl (Nat.le_of_ble_eq_true rfl) (t_ref hO hR (by decide) (fun r18 f18 hr18 z18 hR1 fr18 => ?_))
    dsimp only [Option.toList, List.cons_append, List.nil_append]
    refine x_if_eq (tgt := 26) dX5_setting_21 (by decide) (fun c21 => ?_) (fun c21 => ?_)
    · have p18 := (ite01 hr18).1 c21
      obtain ⟨k, y0, y9, rfl⟩ := (rng (by decide) (by decide)).mp p7
      obtain ⟨hk, hM, hv⟩ := id hR1
      obtain ⟨hm0, ⟨g1, g6, g7, g8, g9, g10, g12, g13, g14, g15, g16, g17, g18⟩, k1, k2, k3, k4, k5, k6, k7, k8, k9, k10, k11, k12, k13, hmz⟩ := id hM
      obtain ⟨vn, vS, vN, vA, vH, vK⟩ : f18 m 2 = nI n ∧ (∀ i, i < n → f18 (m + 1) i = nI (S i)) ∧ Vr (f18) (m + 4) ρ ∧ f18 m 11 = nI L.length ∧ (∀ i σ, L[i]? = some σ → Vo (f18) (m + 6) (74 * i) σ) ∧ ∀ i, i < 2 → (K i = none → f18 (m + 8) i = 0) ∧ ∀ σ, K i = some σ → f18 (m + 8) i = 1 ∧ Vo (f18) (m + 7) (74 * i) σ := hv
      obtain ⟨ok1, ok2, ok3, ok4, ok5, ok6⟩ : Ok T ρ ∧ (∀ σ, σ ∈ L → Ok T σ) ∧ (∀ i σ, K i = some σ → Ok T σ) ∧ n ≤ 120 ∧ (∀ i, i < n → S i < 256) ∧ L.length ≤ 14 := hk
      obtain ⟨hW, hB⟩ := id ok1
      obtain ⟨hb0, hb3, hb4, hb5, hb6, hb7⟩ := id hB
      obtain ⟨w1, w2, w7, w8, w9, w10, w11, w11', w12, wB, wP⟩ := id hW
      have eA : aSetting (S, n, ρ, L, K) (nI k) = (0, nI (ρ (7 + k)), (S, n, ρ, L, K)) := by
        unfold aSetting
        rw [if_pos p7, nI_clamp (by omega)]
      refine x_aload_n dX5_setting_26 rfl ?_
      refine x_get 7 hO dX5_setting_27 f_X5_19 (by first | (simp only [gK_wI]; assumption) | assumption) ⟨by decide, by decide⟩ (v := .ref (m + 4)) (congrArg va_rf g8) ?_
      refine x_bipush (v := nI 7) dX5_setting_30 (by decide) ?_
      refine x_iload_n dX5_setting_32 rfl ?_
      refine x_iadd dX5_setting_33 ?_
      refine x_row (7 + k) hO dX5_setting_34 k4 vN (nI_add _ _) (by omega) ?_
      refine x_iret dX5_setting_35 rfl rfl ?_
      refine hq _ f18 ?_ (fun a ha => fr18 a (by omega)) ?_ ?_
      · rw [eA]
        exact hR1
      · rw [eA]
        exact z18
      · rw [eA]
        exact fun _ => rfl
    · exact absurd (hr18.trans (if_neg (by decide))) c21

theorem r_addCharger {G : GT} {C : AH} {Q : QT} {X : XT} {m T n : Nat} {S : Nat → Nat} {ρ : Rw} {L : List Rw} {K : Nat → Option Rw} {w : Int32} (hO : GO G) (hT : T ≤ 40000) (hR : RM T C m (S, n, ρ, L, K)) (hq : ∀ (r : Int32) (f : Nat → Nat → Int32), RM (T) (wI C f) m (aAddC (S, n, ρ, L, K) w).2.2 → (∀ a, (a < m ∨ m + 14 ≤ a) → f a = gI C a) → f m 0 = nI (aAddC (S, n, ρ, L, K) w).1 → ((aAddC (S, n, ρ, L, K) w).1 = 0 → r = (aAddC (S, n, ρ, L, K) w).2.1) → Q (some (.int r)) (wI C f)) : Mt G M_X5_addCharger [.ref m, .int w] C Q X := by
  refine Mt_of (by decide) (Nat.le_of_ble_eq_true rfl) ?_
  obtain ⟨hk, hM, hv⟩ := id hR
  obtain ⟨hm0, ⟨g1, g6, g7, g8, g9, g10, g12, g13, g14, g15, g16, g17, g18⟩, k1, k2, k3, k4, k5, k6, k7, k8, k9, k10, k11, k12, k13, hmz⟩ := id hM
  obtain ⟨vn, vS, vN, vA, vH, vK⟩ : gI C m 2 = nI n ∧ (∀ i, i < n → gI C (m + 1) i = nI (S i)) ∧ Vr (gI C) (m + 4) ρ ∧ gI C m 11 = nI L.length ∧ (∀ i σ, L[i]? = some σ → Vo (gI C) (m + 6) (74 * i) σ) ∧ ∀ i, i < 2 → (K i = none → gI C (m + 8) i = 0) ∧ ∀ σ, K i = some σ → gI C (m + 8) i = 1 ∧ Vo (gI C) (m + 7) (74 * i) σ := hv
  obtain ⟨ok1, ok2, ok3, ok4, ok5, ok6⟩ : Ok T ρ ∧ (∀ σ, σ ∈ L → Ok T σ) ∧ (∀ i σ, K i = some σ → Ok T σ) ∧ n ≤ 120 ∧ (∀ i, i < n → S i < 256) ∧ L.length ≤ 14 := hk
  obtain ⟨hW, hB⟩ := id ok1
  obtain ⟨hb0, hb3, hb4, hb5, hb6, hb7⟩ := id hB
  obtain ⟨w1, w2, w7, w8, w9, w10, w11, w11', w12, wB, wP⟩ := id hW
  refine x_aload_n dX5_addCharger_0 rfl ?_
  refine x_iload_n dX5_addCharger_1 rfl ?_
  refine x_callS (As := [_]) hO dX5_addCharger_2 o_X5_isPower s_X5_isPower l_X5_254 ⟨by decide, by decide⟩ ⟨by decide, by decide⟩ rfl rfl (Nat.le_of_ble_eq_true rfl) (r_isPower hO (fun r2 hr2 => ?_))
  dsimp only [Option.toList, List.cons_append, List.nil_append]
  refine x_if_ne (tgt := 12) dX5_addCharger_5 (by decide) (fun c5 => ?_) (fun c5 => ?_)
  · have p2 := (ite01 hr2).2 c5
    refine x_aload_n dX5_addCharger_12 rfl ?_
    refine x_get 7 hO dX5_addCharger_13 f_X5_19 (by first | (simp only [gK_wI]; assumption) | assumption) ⟨by decide, by decide⟩ (v := .ref (m + 4)) (congrArg va_rf g8) ?_
    refine x_iconst (v := nI 2) dX5_addCharger_16 (by decide) ?_
    refine x_row _ hO dX5_addCharger_17 k4 vN rfl (by omega) ?_
    refine x_iconst (v := nI 5) dX5_addCharger_18 (by decide) ?_
    refine x_icmp_ne (tgt := 26) dX5_addCharger_19 (by decide) (fun c19 => ?_) (fun c19 => ?_)
    · refine x_iconst (v := nI 0) dX5_addCharger_26 (by decide) ?_
      refine x_callV (As := [_]) 7 hO dX5_addCharger_27 o_X5_refused v_X5_refused l_X5_137 ⟨by decide, by decide⟩ (by first | (simp only [gK_wI]; assumption) | assumption) ⟨by decide, by decide⟩ rfl ⟨by decide, by decide⟩ rfl rfl (Nat.le_of_ble_eq_true rfl) (t_ref hO hR (by decide) (fun r27 f27 hr27 z27 hR1 fr27 => ?_))
      dsimp only [Option.toList, List.cons_append, List.nil_append]
      refine x_if_eq (tgt := 35) dX5_addCharger_30 (by decide) (fun c30 => ?_) (fun c30 => ?_)
      · have p27 := (ite01 hr27).1 c30
        obtain ⟨k, y0, y9, rfl⟩ := (rng (by decide) (by decide)).mp p2
        obtain ⟨hk, hM, hv⟩ := id hR1
        obtain ⟨hm0, ⟨g1, g6, g7, g8, g9, g10, g12, g13, g14, g15, g16, g17, g18⟩, k1, k2, k3, k4, k5, k6, k7, k8, k9, k10, k11, k12, k13, hmz⟩ := id hM
        obtain ⟨vn, vS, vN, vA, vH, vK⟩ : f27 m 2 = nI n ∧ (∀ i, i < n → f27 (m + 1) i = nI (S i)) ∧ Vr (f27) (m + 4) ρ ∧ f27 m 11 = nI L.length ∧ (∀ i σ, L[i]? = some σ → Vo (f27) (m + 6) (74 * i) σ) ∧ ∀ i, i < 2 → (K i = none → f27 (m + 8) i = 0) ∧ ∀ σ, K i = some σ → f27 (m + 8) i = 1 ∧ Vo (f27) (m + 7) (74 * i) σ := hv
        obtain ⟨ok1, ok2, ok3, ok4, ok5, ok6⟩ : Ok T ρ ∧ (∀ σ, σ ∈ L → Ok T σ) ∧ (∀ i σ, K i = some σ → Ok T σ) ∧ n ≤ 120 ∧ (∀ i, i < n → S i < 256) ∧ L.length ≤ 14 := hk
        obtain ⟨hW, hB⟩ := id ok1
        obtain ⟨hb0, hb3, hb4, hb5, hb6, hb7⟩ := id hB
        obtain ⟨w1, w2, w7, w8, w9, w10, w11, w11', w12, wB, wP⟩ := id hW
        have h59 : ρ 2 ≠ 5 := fun e => c19 (by rw [e])
        have eA : aAddC (S, n, ρ, L, K) (nI k) = (0, nI (ρ 2), (S, n, addC ρ k, rem14 L ρ, K)) := by
          unfold aAddC
          rw [if_pos p2, nI_clamp (by omega)]
          exact if_neg h59
        refine x_aload_n dX5_addCharger_35 rfl ?_
        refine x_callV (As := []) 7 hO dX5_addCharger_36 o_X5_remember v_X5_remember l_X5_251 ⟨by decide, by decide⟩ (by first | (simp only [gK_wI]; assumption) | assumption) ⟨by decide, by decide⟩ rfl ⟨by decide, by decide⟩ rfl rfl (Nat.le_of_ble_eq_true rfl) (t_rem hO hT hR1 (fun g hR2 z2 r2 => ?_))
        dsimp only [Option.toList, List.cons_append, List.nil_append]
        have hR2 : RM T (wI C g) m (S, n, ρ, rem14 L ρ, K) := hR2
        have z2 : g m 0 = nI 0 := z2.trans z27
        have r2 : ∀ a, a ≠ m → a ≠ m + 6 → g a = gI C a := fun a h1 h2 => (r2 a h1 h2).trans (fr27 a h1)
        obtain ⟨hk, hM, hv⟩ := id hR2
        obtain ⟨hm0, ⟨g1, g6, g7, g8, g9, g10, g12, g13, g14, g15, g16, g17, g18⟩, k1, k2, k3, k4, k5, k6, k7, k8, k9, k10, k11, k12, k13, hmz⟩ := id hM
        obtain ⟨vn, vS, vN, vA, vH, vK⟩ : g m 2 = nI n ∧ (∀ i, i < n → g (m + 1) i = nI (S i)) ∧ Vr (g) (m + 4) ρ ∧ g m 11 = nI (rem14 L ρ).length ∧ (∀ i σ, (rem14 L ρ)[i]? = some σ → Vo (g) (m + 6) (74 * i) σ) ∧ ∀ i, i < 2 → (K i = none → g (m + 8) i = 0) ∧ ∀ σ, K i = some σ → g (m + 8) i = 1 ∧ Vo (g) (m + 7) (74 * i) σ := hv
        obtain ⟨ok1, ok2, ok3, ok4, ok5, ok6⟩ : Ok T ρ ∧ (∀ σ, σ ∈ (rem14 L ρ) → Ok T σ) ∧ (∀ i σ, K i = some σ → Ok T σ) ∧ n ≤ 120 ∧ (∀ i, i < n → S i < 256) ∧ (rem14 L ρ).length ≤ 14 := hk
        obtain ⟨hW, hB⟩ := id ok1
        obtain ⟨hb0, hb3, hb4, hb5, hb6, hb7⟩ := id hB
        obtain ⟨w1, w2, w7, w8, w9, w10, w11, w11', w12, wB, wP⟩ := id hW
        refine x_aload_n dX5_addCharger_39 rfl ?_
        refine x_get 7 hO dX5_addCharger_40 f_X5_19 (by first | (simp only [gK_wI]; assumption) | assumption) ⟨by decide, by decide⟩ (v := .ref (m + 4)) (congrArg va_rf g8) ?_
        refine x_iload_n dX5_addCharger_43 rfl ?_
        refine x_callS (As := [_, _]) hO dX5_addCharger_44 o_X5_addPlugIn s_X5_addPlugIn l_X5_186 ⟨by decide, by decide⟩ ⟨by decide, by decide⟩ rfl rfl (Nat.le_of_ble_eq_true rfl) (r_addPlugIn hO k4 vN (by omega) (fun f v r => ?_))
        dsimp only [Option.toList, List.cons_append, List.nil_append]
        refine x_iret dX5_addCharger_47 rfl rfl ?_
        refine hq _ f ?_ (fun a ha => (r a (by omega)).trans (r2 a (by omega) (by omega))) ?_ ?_
        · rw [eA]
          exact RM_now (C := wI C g) hR2 (congrFun (r m (by omega)) 2) (congrFun (r m (by omega)) 11) (fun k hk => r _ (by omega)) v (Nat.le_refl _) (Ok_addC ok1 y0 y9 (by omega))
        · rw [eA]
          exact (congrFun (r m (by omega)) 0).trans z2
        · rw [eA]
          exact fun _ => rfl
      · exact absurd (hr27.trans (if_neg (by decide))) c30
    · refine x_iconst (v := nI 2) dX5_addCharger_22 (by decide) ?_
      refine x_goto (tgt := 27) dX5_addCharger_23 (by decide) ?_
      refine x_callV (As := [_]) 7 hO dX5_addCharger_27 o_X5_refused v_X5_refused l_X5_137 ⟨by decide, by decide⟩ (by first | (simp only [gK_wI]; assumption) | assumption) ⟨by decide, by decide⟩ rfl ⟨by decide, by decide⟩ rfl rfl (Nat.le_of_ble_eq_true rfl) (t_ref hO hR (by decide) (fun r27 f27 hr27 z27 hR1 fr27 => ?_))
      dsimp only [Option.toList, List.cons_append, List.nil_append]
      refine x_if_eq (tgt := 35) dX5_addCharger_30 (by decide) (fun c30 => ?_) (fun c30 => ?_)
      · exact absurd (c30.symm.trans (hr27.trans (if_pos (by decide)))) (by decide)
      · have p27 := (ite01 hr27).2 c30
        refine x_iconst (v := nI 0) dX5_addCharger_33 (by decide) ?_
        refine x_iret dX5_addCharger_34 rfl rfl ?_
        have eA : aAddC (S, n, ρ, L, K) w = (2, 0, (S, n, ρ, L, K)) := (if_pos p2).trans (if_pos ((nI_eq (by omega) (by decide)).mp c19))
        refine hq _ f27 ?_ (fun a ha => fr27 a (by omega)) ?_ ?_
        · rw [eA]
          exact hR1
        · rw [eA]
          exact z27
        · rw [eA]
          exact fun h => absurd h (Nat.succ_ne_zero _)
  · have p2 := (ite01 hr2).1 c5
    refine x_iconst (v := nI 1) dX5_addCharger_8 (by decide) ?_
    refine x_goto (tgt := 27) dX5_addCharger_9 (by decide) ?_
    refine x_callV (As := [_]) 7 hO dX5_addCharger_27 o_X5_refused v_X5_refused l_X5_137 ⟨by decide, by decide⟩ (by first | (simp only [gK_wI]; assumption) | assumption) ⟨by decide, by decide⟩ rfl ⟨by decide, by decide⟩ rfl rfl (Nat.le_of_ble_eq_true rfl) (t_ref hO hR (by decide) (fun r27 f27 hr27 z27 hR1 fr27 => ?_))
    dsimp only [Option.toList, List.cons_append, List.nil_append]
    refine x_if_eq (tgt := 35) dX5_addCharger_30 (by decide) (fun c30 => ?_) (fun c30 => ?_)
    · exact absurd (c30.symm.trans (hr27.trans (if_pos (by decide)))) (by decide)
    · have p27 := (ite01 hr27).2 c30
      refine x_iconst (v := nI 0) dX5_addCharger_33 (by decide) ?_
      refine x_iret dX5_addCharger_34 rfl rfl ?_
      have eA : aAddC (S, n, ρ, L, K) w = (1, 0, (S, n, ρ, L, K)) := if_neg p2
      refine hq _ f27 ?_ (fun a ha => fr27 a (by omega)) ?_ ?_
      · rw [eA]
        exact hR1
      · rw [eA]
        exact z27
      · rw [eA]
        exact fun h => absurd h (Nat.succ_ne_zero _)

theorem r_run {G : GT} {C : AH} {Q : QT} {X : XT} {m T n : Nat} {S : Nat → Nat} {ρ : Rw} {L : List Rw} {K : Nat → Option Rw} {w : Int32} (hO : GO G) (hT : T ≤ 40000) (hR : RM T C m (S, n, ρ, L, K)) (hq : ∀ (r : Int32) (f : Nat → Nat → Int32), RM (T + 48) (wI C f) m (aRun (S, n, ρ, L, K) w).2.2 → (∀ a, (a < m ∨ m + 14 ≤ a) → f a = gI C a) → f m 0 = nI (aRun (S, n, ρ, L, K) w).1 → ((aRun (S, n, ρ, L, K) w).1 = 0 → r = (aRun (S, n, ρ, L, K) w).2.1) → Q (some (.int r)) (wI C f)) : Mt G M_X5_run [.ref m, .int w] C Q X := by
  refine Mt_of (by decide) (Nat.le_of_ble_eq_true rfl) ?_
  obtain ⟨hk, hM, hv⟩ := id hR
  obtain ⟨hm0, ⟨g1, g6, g7, g8, g9, g10, g12, g13, g14, g15, g16, g17, g18⟩, k1, k2, k3, k4, k5, k6, k7, k8, k9, k10, k11, k12, k13, hmz⟩ := id hM
  obtain ⟨vn, vS, vN, vA, vH, vK⟩ : gI C m 2 = nI n ∧ (∀ i, i < n → gI C (m + 1) i = nI (S i)) ∧ Vr (gI C) (m + 4) ρ ∧ gI C m 11 = nI L.length ∧ (∀ i σ, L[i]? = some σ → Vo (gI C) (m + 6) (74 * i) σ) ∧ ∀ i, i < 2 → (K i = none → gI C (m + 8) i = 0) ∧ ∀ σ, K i = some σ → gI C (m + 8) i = 1 ∧ Vo (gI C) (m + 7) (74 * i) σ := hv
  obtain ⟨ok1, ok2, ok3, ok4, ok5, ok6⟩ : Ok T ρ ∧ (∀ σ, σ ∈ L → Ok T σ) ∧ (∀ i σ, K i = some σ → Ok T σ) ∧ n ≤ 120 ∧ (∀ i, i < n → S i < 256) ∧ L.length ≤ 14 := hk
  obtain ⟨hW, hB⟩ := id ok1
  obtain ⟨hb0, hb3, hb4, hb5, hb6, hb7⟩ := id hB
  obtain ⟨w1, w2, w7, w8, w9, w10, w11, w11', w12, wB, wP⟩ := id hW
  refine x_aload_n dX5_run_0 rfl ?_
  refine x_iload_n dX5_run_1 rfl ?_
  refine x_callS (As := [_]) hO dX5_run_2 o_X5_isRun s_X5_isRun l_X5_267 ⟨by decide, by decide⟩ ⟨by decide, by decide⟩ rfl rfl (Nat.le_of_ble_eq_true rfl) (r_isRun hO (fun r2 hr2 => ?_))
  dsimp only [Option.toList, List.cons_append, List.nil_append]
  refine x_if_eq (tgt := 12) dX5_run_5 (by decide) (fun c5 => ?_) (fun c5 => ?_)
  · have p2 := (ite01 hr2).1 c5
    refine x_iconst (v := nI 1) dX5_run_12 (by decide) ?_
    refine x_callV (As := [_]) 7 hO dX5_run_13 o_X5_refused v_X5_refused l_X5_137 ⟨by decide, by decide⟩ (by first | (simp only [gK_wI]; assumption) | assumption) ⟨by decide, by decide⟩ rfl ⟨by decide, by decide⟩ rfl rfl (Nat.le_of_ble_eq_true rfl) (t_ref hO hR (by decide) (fun r13 f13 hr13 z13 hR1 fr13 => ?_))
    dsimp only [Option.toList, List.cons_append, List.nil_append]
    refine x_if_eq (tgt := 21) dX5_run_16 (by decide) (fun c16 => ?_) (fun c16 => ?_)
    · exact absurd (c16.symm.trans (hr13.trans (if_pos (by decide)))) (by decide)
    · have p13 := (ite01 hr13).2 c16
      refine x_iconst (v := nI 0) dX5_run_19 (by decide) ?_
      refine x_iret dX5_run_20 rfl rfl ?_
      have eA : aRun (S, n, ρ, L, K) w = (1, 0, (S, n, ρ, L, K)) := if_neg p2
      refine hq _ f13 ?_ (fun a ha => fr13 a (by omega)) ?_ ?_
      · rw [eA]
        exact RM_mono hR1 (by omega)
      · rw [eA]
        exact z13
      · rw [eA]
        exact fun h => absurd h (Nat.succ_ne_zero _)
  · have p2 := (ite01 hr2).2 c5
    refine x_iconst (v := nI 0) dX5_run_8 (by decide) ?_
    refine x_goto (tgt := 13) dX5_run_9 (by decide) ?_
    refine x_callV (As := [_]) 7 hO dX5_run_13 o_X5_refused v_X5_refused l_X5_137 ⟨by decide, by decide⟩ (by first | (simp only [gK_wI]; assumption) | assumption) ⟨by decide, by decide⟩ rfl ⟨by decide, by decide⟩ rfl rfl (Nat.le_of_ble_eq_true rfl) (t_ref hO hR (by decide) (fun r13 f13 hr13 z13 hR1 fr13 => ?_))
    dsimp only [Option.toList, List.cons_append, List.nil_append]
    refine x_if_eq (tgt := 21) dX5_run_16 (by decide) (fun c16 => ?_) (fun c16 => ?_)
    · have p13 := (ite01 hr13).1 c16
      obtain ⟨k, y0, y9, rfl⟩ := (rng (by decide) (by decide)).mp p2
      obtain ⟨hk, hM, hv⟩ := id hR1
      obtain ⟨hm0, ⟨g1, g6, g7, g8, g9, g10, g12, g13, g14, g15, g16, g17, g18⟩, k1, k2, k3, k4, k5, k6, k7, k8, k9, k10, k11, k12, k13, hmz⟩ := id hM
      obtain ⟨vn, vS, vN, vA, vH, vK⟩ : f13 m 2 = nI n ∧ (∀ i, i < n → f13 (m + 1) i = nI (S i)) ∧ Vr (f13) (m + 4) ρ ∧ f13 m 11 = nI L.length ∧ (∀ i σ, L[i]? = some σ → Vo (f13) (m + 6) (74 * i) σ) ∧ ∀ i, i < 2 → (K i = none → f13 (m + 8) i = 0) ∧ ∀ σ, K i = some σ → f13 (m + 8) i = 1 ∧ Vo (f13) (m + 7) (74 * i) σ := hv
      obtain ⟨ok1, ok2, ok3, ok4, ok5, ok6⟩ : Ok T ρ ∧ (∀ σ, σ ∈ L → Ok T σ) ∧ (∀ i σ, K i = some σ → Ok T σ) ∧ n ≤ 120 ∧ (∀ i, i < n → S i < 256) ∧ L.length ≤ 14 := hk
      obtain ⟨hW, hB⟩ := id ok1
      obtain ⟨hb0, hb3, hb4, hb5, hb6, hb7⟩ := id hB
      obtain ⟨w1, w2, w7, w8, w9, w10, w11, w11', w12, wB, wP⟩ := id hW
      have eA : aRun (S, n, ρ, L, K) (nI k) = (0, nI (runN k ρ 4) - nI (ρ 4), (S, n, runN k ρ, rem14 L ρ, K)) := by
        unfold aRun
        rw [if_pos p2, nI_clamp (by omega)]
      refine x_aload_n dX5_run_21 rfl ?_
      refine x_callV (As := []) 7 hO dX5_run_22 o_X5_remember v_X5_remember l_X5_251 ⟨by decide, by decide⟩ (by first | (simp only [gK_wI]; assumption) | assumption) ⟨by decide, by decide⟩ rfl ⟨by decide, by decide⟩ rfl rfl (Nat.le_of_ble_eq_true rfl) (t_rem hO hT hR1 (fun g hR2 z2 r2 => ?_))
      dsimp only [Option.toList, List.cons_append, List.nil_append]
      have hR2 : RM T (wI C g) m (S, n, ρ, rem14 L ρ, K) := hR2
      have z2 : g m 0 = nI 0 := z2.trans z13
      have r2 : ∀ a, a ≠ m → a ≠ m + 6 → g a = gI C a := fun a h1 h2 => (r2 a h1 h2).trans (fr13 a h1)
      obtain ⟨hk, hM, hv⟩ := id hR2
      obtain ⟨hm0, ⟨g1, g6, g7, g8, g9, g10, g12, g13, g14, g15, g16, g17, g18⟩, k1, k2, k3, k4, k5, k6, k7, k8, k9, k10, k11, k12, k13, hmz⟩ := id hM
      obtain ⟨vn, vS, vN, vA, vH, vK⟩ : g m 2 = nI n ∧ (∀ i, i < n → g (m + 1) i = nI (S i)) ∧ Vr (g) (m + 4) ρ ∧ g m 11 = nI (rem14 L ρ).length ∧ (∀ i σ, (rem14 L ρ)[i]? = some σ → Vo (g) (m + 6) (74 * i) σ) ∧ ∀ i, i < 2 → (K i = none → g (m + 8) i = 0) ∧ ∀ σ, K i = some σ → g (m + 8) i = 1 ∧ Vo (g) (m + 7) (74 * i) σ := hv
      obtain ⟨ok1, ok2, ok3, ok4, ok5, ok6⟩ : Ok T ρ ∧ (∀ σ, σ ∈ (rem14 L ρ) → Ok T σ) ∧ (∀ i σ, K i = some σ → Ok T σ) ∧ n ≤ 120 ∧ (∀ i, i < n → S i < 256) ∧ (rem14 L ρ).length ≤ 14 := hk
      obtain ⟨hW, hB⟩ := id ok1
      obtain ⟨hb0, hb3, hb4, hb5, hb6, hb7⟩ := id hB
      obtain ⟨w1, w2, w7, w8, w9, w10, w11, w11', w12, wB, wP⟩ := id hW
      refine x_aload_n dX5_run_25 rfl ?_
      refine x_aload_n dX5_run_26 rfl ?_
      refine x_get 7 hO dX5_run_27 f_X5_19 (by first | (simp only [gK_wI]; assumption) | assumption) ⟨by decide, by decide⟩ (v := .ref (m + 4)) (congrArg va_rf g8) ?_
      refine x_iload_n dX5_run_30 rfl ?_
      refine x_callV (As := [_, _]) 7 hO dX5_run_31 o_X5_runIn v_X5_runIn l_X5_189 ⟨by decide, by decide⟩ (by first | (simp only [gK_wI]; assumption) | assumption) ⟨by decide, by decide⟩ rfl ⟨by decide, by decide⟩ rfl rfl (Nat.le_of_ble_eq_true rfl) (r_runIn hO k4 vN hW hB (by omega) hM (by omega) (fun f v r => ?_))
      dsimp only [Option.toList, List.cons_append, List.nil_append]
      have r : ∀ a, a ≠ m + 4 → a < m + 9 ∨ m + 14 ≤ a → f a = g a := r
      refine x_iret dX5_run_34 rfl rfl ?_
      refine hq _ f ?_ (fun a ha => (r a (by omega) (by omega)).trans (r2 a (by omega) (by omega))) ?_ ?_
      · rw [eA]
        exact RM_now (C := wI C g) hR2 (congrFun (r m (by omega) (by omega)) 2) (congrFun (r m (by omega) (by omega)) 11) (fun k hk => r _ (by omega) (by omega)) v (by omega) (Ok_mono (Ok_run ok1) (by omega))
      · rw [eA]
        exact (congrFun (r m (by omega) (by omega)) 0).trans z2
      · rw [eA]
        exact fun _ => rfl
    · exact absurd (hr13.trans (if_neg (by decide))) c16

theorem r_set {G : GT} {C : AH} {Q : QT} {X : XT} {m T n : Nat} {S : Nat → Nat} {ρ : Rw} {L : List Rw} {K : Nat → Option Rw} {w v : Int32} (hO : GO G) (hT : T ≤ 40000) (hR : RM T C m (S, n, ρ, L, K)) (hq : ∀ (r : Int32) (f : Nat → Nat → Int32), RM (T) (wI C f) m (aSet (S, n, ρ, L, K) w v).2.2 → (∀ a, (a < m ∨ m + 14 ≤ a) → f a = gI C a) → f m 0 = nI (aSet (S, n, ρ, L, K) w v).1 → ((aSet (S, n, ρ, L, K) w v).1 = 0 → r = (aSet (S, n, ρ, L, K) w v).2.1) → Q (some (.int r)) (wI C f)) : Mt G M_X5_set [.ref m, .int w, .int v] C Q X := by
  refine Mt_of (by decide) (Nat.le_of_ble_eq_true rfl) ?_
  obtain ⟨hk, hM, hv⟩ := id hR
  obtain ⟨hm0, ⟨g1, g6, g7, g8, g9, g10, g12, g13, g14, g15, g16, g17, g18⟩, k1, k2, k3, k4, k5, k6, k7, k8, k9, k10, k11, k12, k13, hmz⟩ := id hM
  obtain ⟨vn, vS, vN, vA, vH, vK⟩ : gI C m 2 = nI n ∧ (∀ i, i < n → gI C (m + 1) i = nI (S i)) ∧ Vr (gI C) (m + 4) ρ ∧ gI C m 11 = nI L.length ∧ (∀ i σ, L[i]? = some σ → Vo (gI C) (m + 6) (74 * i) σ) ∧ ∀ i, i < 2 → (K i = none → gI C (m + 8) i = 0) ∧ ∀ σ, K i = some σ → gI C (m + 8) i = 1 ∧ Vo (gI C) (m + 7) (74 * i) σ := hv
  obtain ⟨ok1, ok2, ok3, ok4, ok5, ok6⟩ : Ok T ρ ∧ (∀ σ, σ ∈ L → Ok T σ) ∧ (∀ i σ, K i = some σ → Ok T σ) ∧ n ≤ 120 ∧ (∀ i, i < n → S i < 256) ∧ L.length ≤ 14 := hk
  obtain ⟨hW, hB⟩ := id ok1
  obtain ⟨hb0, hb3, hb4, hb5, hb6, hb7⟩ := id hB
  obtain ⟨w1, w2, w7, w8, w9, w10, w11, w11', w12, wB, wP⟩ := id hW
  refine x_aload_n dX5_set_0 rfl ?_
  refine x_iload_n dX5_set_1 rfl ?_
  refine x_iload_n dX5_set_2 rfl ?_
  refine x_callS (As := [_, _]) hO dX5_set_3 o_X5_isSetting s_X5_isSetting l_X5_182 ⟨by decide, by decide⟩ ⟨by decide, by decide⟩ rfl rfl (Nat.le_of_ble_eq_true rfl) (r_isSetting hO (fun r3 hr3 => ?_))
  dsimp only [Option.toList, List.cons_append, List.nil_append]
  refine x_if_eq (tgt := 13) dX5_set_6 (by decide) (fun c6 => ?_) (fun c6 => ?_)
  · have p3 := (ite01 hr3).1 c6
    refine x_iconst (v := nI 1) dX5_set_13 (by decide) ?_
    refine x_callV (As := [_]) 7 hO dX5_set_14 o_X5_refused v_X5_refused l_X5_137 ⟨by decide, by decide⟩ (by first | (simp only [gK_wI]; assumption) | assumption) ⟨by decide, by decide⟩ rfl ⟨by decide, by decide⟩ rfl rfl (Nat.le_of_ble_eq_true rfl) (t_ref hO hR (by decide) (fun r14 f14 hr14 z14 hR1 fr14 => ?_))
    dsimp only [Option.toList, List.cons_append, List.nil_append]
    refine x_if_eq (tgt := 22) dX5_set_17 (by decide) (fun c17 => ?_) (fun c17 => ?_)
    · exact absurd (c17.symm.trans (hr14.trans (if_pos (by decide)))) (by decide)
    · have p14 := (ite01 hr14).2 c17
      refine x_iconst (v := nI 0) dX5_set_20 (by decide) ?_
      refine x_iret dX5_set_21 rfl rfl ?_
      have eA : aSet (S, n, ρ, L, K) w v = (1, 0, (S, n, ρ, L, K)) := if_neg p3
      refine hq _ f14 ?_ (fun a ha => fr14 a (by omega)) ?_ ?_
      · rw [eA]
        exact hR1
      · rw [eA]
        exact z14
      · rw [eA]
        exact fun h => absurd h (Nat.succ_ne_zero _)
  · have p3 := (ite01 hr3).2 c6
    refine x_iconst (v := nI 0) dX5_set_9 (by decide) ?_
    refine x_goto (tgt := 14) dX5_set_10 (by decide) ?_
    refine x_callV (As := [_]) 7 hO dX5_set_14 o_X5_refused v_X5_refused l_X5_137 ⟨by decide, by decide⟩ (by first | (simp only [gK_wI]; assumption) | assumption) ⟨by decide, by decide⟩ rfl ⟨by decide, by decide⟩ rfl rfl (Nat.le_of_ble_eq_true rfl) (t_ref hO hR (by decide) (fun r14 f14 hr14 z14 hR1 fr14 => ?_))
    dsimp only [Option.toList, List.cons_append, List.nil_append]
    refine x_if_eq (tgt := 22) dX5_set_17 (by decide) (fun c17 => ?_) (fun c17 => ?_)
    · have p14 := (ite01 hr14).1 c17
      obtain ⟨k, x, rfl, rfl, hkx⟩ := okS_N.mp p3
      have hx9 : x ≤ 999 := Nat.le_trans hkx.2.2 (by unfold hiS; split <;> (try split) <;> (try split) <;> omega)
      have hk6 := hkx.1
      obtain ⟨hk, hM, hv⟩ := id hR1
      obtain ⟨hm0, ⟨g1, g6, g7, g8, g9, g10, g12, g13, g14, g15, g16, g17, g18⟩, k1, k2, k3, k4, k5, k6, k7, k8, k9, k10, k11, k12, k13, hmz⟩ := id hM
      obtain ⟨vn, vS, vN, vA, vH, vK⟩ : f14 m 2 = nI n ∧ (∀ i, i < n → f14 (m + 1) i = nI (S i)) ∧ Vr (f14) (m + 4) ρ ∧ f14 m 11 = nI L.length ∧ (∀ i σ, L[i]? = some σ → Vo (f14) (m + 6) (74 * i) σ) ∧ ∀ i, i < 2 → (K i = none → f14 (m + 8) i = 0) ∧ ∀ σ, K i = some σ → f14 (m + 8) i = 1 ∧ Vo (f14) (m + 7) (74 * i) σ := hv
      obtain ⟨ok1, ok2, ok3, ok4, ok5, ok6⟩ : Ok T ρ ∧ (∀ σ, σ ∈ L → Ok T σ) ∧ (∀ i σ, K i = some σ → Ok T σ) ∧ n ≤ 120 ∧ (∀ i, i < n → S i < 256) ∧ L.length ≤ 14 := hk
      obtain ⟨hW, hB⟩ := id ok1
      obtain ⟨hb0, hb3, hb4, hb5, hb6, hb7⟩ := id hB
      obtain ⟨w1, w2, w7, w8, w9, w10, w11, w11', w12, wB, wP⟩ := id hW
      have eA : aSet (S, n, ρ, L, K) (nI k) (nI x) = (0, nI (ρ (7 + k)), (S, n, stS ρ k x, rem14 L ρ, K)) := by
        unfold aSet
        rw [if_pos p3, nI_clamp (by omega), nI_clamp (by omega)]
      refine x_aload_n dX5_set_22 rfl ?_
      refine x_callV (As := []) 7 hO dX5_set_23 o_X5_remember v_X5_remember l_X5_251 ⟨by decide, by decide⟩ (by first | (simp only [gK_wI]; assumption) | assumption) ⟨by decide, by decide⟩ rfl ⟨by decide, by decide⟩ rfl rfl (Nat.le_of_ble_eq_true rfl) (t_rem hO hT hR1 (fun g hR2 z2 r2 => ?_))
      dsimp only [Option.toList, List.cons_append, List.nil_append]
      have hR2 : RM T (wI C g) m (S, n, ρ, rem14 L ρ, K) := hR2
      have z2 : g m 0 = nI 0 := z2.trans z14
      have r2 : ∀ a, a ≠ m → a ≠ m + 6 → g a = gI C a := fun a h1 h2 => (r2 a h1 h2).trans (fr14 a h1)
      obtain ⟨hk, hM, hv⟩ := id hR2
      obtain ⟨hm0, ⟨g1, g6, g7, g8, g9, g10, g12, g13, g14, g15, g16, g17, g18⟩, k1, k2, k3, k4, k5, k6, k7, k8, k9, k10, k11, k12, k13, hmz⟩ := id hM
      obtain ⟨vn, vS, vN, vA, vH, vK⟩ : g m 2 = nI n ∧ (∀ i, i < n → g (m + 1) i = nI (S i)) ∧ Vr (g) (m + 4) ρ ∧ g m 11 = nI (rem14 L ρ).length ∧ (∀ i σ, (rem14 L ρ)[i]? = some σ → Vo (g) (m + 6) (74 * i) σ) ∧ ∀ i, i < 2 → (K i = none → g (m + 8) i = 0) ∧ ∀ σ, K i = some σ → g (m + 8) i = 1 ∧ Vo (g) (m + 7) (74 * i) σ := hv
      obtain ⟨ok1, ok2, ok3, ok4, ok5, ok6⟩ : Ok T ρ ∧ (∀ σ, σ ∈ (rem14 L ρ) → Ok T σ) ∧ (∀ i σ, K i = some σ → Ok T σ) ∧ n ≤ 120 ∧ (∀ i, i < n → S i < 256) ∧ (rem14 L ρ).length ≤ 14 := hk
      obtain ⟨hW, hB⟩ := id ok1
      obtain ⟨hb0, hb3, hb4, hb5, hb6, hb7⟩ := id hB
      obtain ⟨w1, w2, w7, w8, w9, w10, w11, w11', w12, wB, wP⟩ := id hW
      refine x_aload_n dX5_set_26 rfl ?_
      refine x_get 7 hO dX5_set_27 f_X5_19 (by first | (simp only [gK_wI]; assumption) | assumption) ⟨by decide, by decide⟩ (v := .ref (m + 4)) (congrArg va_rf g8) ?_
      refine x_bipush (v := nI 7) dX5_set_30 (by decide) ?_
      refine x_iload_n dX5_set_32 rfl ?_
      refine x_iadd dX5_set_33 ?_
      refine x_row (7 + k) hO dX5_set_34 k4 vN (nI_add _ _) (by omega) ?_
      refine x_istore_n dX5_set_35 (by decide) ?_
      refine x_aload_n dX5_set_36 rfl ?_
      refine x_get 7 hO dX5_set_37 f_X5_19 (by first | (simp only [gK_wI]; assumption) | assumption) ⟨by decide, by decide⟩ (v := .ref (m + 4)) (congrArg va_rf g8) ?_
      refine x_bipush (v := nI 7) dX5_set_40 (by decide) ?_
      refine x_iload_n dX5_set_42 rfl ?_
      refine x_iadd dX5_set_43 ?_
      refine x_iload_n dX5_set_44 rfl ?_
      refine x_rowS (7 + k) x hO dX5_set_45 k4 vN (nI_add _ _) (by omega) rfl (fun f vv r => ?_)
      refine x_iload_n dX5_set_46 rfl ?_
      refine x_iret dX5_set_47 rfl rfl ?_
      refine hq _ f ?_ (fun a ha => (r a (by omega)).trans (r2 a (by omega) (by omega))) ?_ ?_
      · rw [eA]
        exact RM_now (C := wI C g) hR2 (congrFun (r m (by omega)) 2) (congrFun (r m (by omega)) 11) (fun k hk => r _ (by omega)) vv (Nat.le_refl _) (Ok_stS ok1 hkx)
      · rw [eA]
        exact (congrFun (r m (by omega)) 0).trans z2
      · rw [eA]
        exact fun _ => rfl
    · exact absurd (hr14.trans (if_neg (by decide))) c17

