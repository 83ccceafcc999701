/-! the reference: what would be *)-/
theorem r_coming {G : GT} {C : AH} {Q : QT} {X : XT} {m T n : Nat} {S : Nat → Nat} {ρ : Rw} {L : List Rw} {K : Nat → Option Rw} {w v : Int32} (hO : GO G) (hT : T ≤ 40000) (hR : RM T C m (S, n, ρ, L, K)) (hq : ∀ (r : Int32) (f : Nat → Nat → Int32), RM (T) (wI C f) m (aComing (S, n, ρ, L, K) w v).2.2 → (∀ a, (a < m ∨ m + 14 ≤ a) → f a = gI C a) → f m 0 = nI (aComing (S, n, ρ, L, K) w v).1 → ((aComing (S, n, ρ, L, K) w v).1 = 0 → r = (aComing (S, n, ρ, L, K) w v).2.1) → Q (some (.int r)) (wI C f)) : Mt G M_X5_coming [.ref m, .int w, .int v] C Q X := by
  refine Mt_of (by decide) (Nat.le_of_ble_eq_true rfl) ?_
  obtain ⟨hk, hM, hv⟩ := id hR
  obtain ⟨hm0, ⟨g1, g6, g7, g8, g9, g10, g12, g13, g14, g15, g16, g17, g18⟩, k1, k2, k3, k4, k5, k6, k7, k8, k9, k10, k11, k12, k13, hmz⟩ := id hM
  obtain ⟨vn, vS, vN, vA, vH, vK⟩ : gI C m 2 = nI n ∧ (∀ i, i < n → gI C (m + 1) i = nI (S i)) ∧ Vr (gI C) (m + 4) ρ ∧ gI C m 11 = nI L.length ∧ (∀ i σ, L[i]? = some σ → Vo (gI C) (m + 6) (74 * i) σ) ∧ ∀ i, i < 2 → (K i = none → gI C (m + 8) i = 0) ∧ ∀ σ, K i = some σ → gI C (m + 8) i = 1 ∧ Vo (gI C) (m + 7) (74 * i) σ := hv
  obtain ⟨ok1, ok2, ok3, ok4, ok5, ok6⟩ : Ok T ρ ∧ (∀ σ, σ ∈ L → Ok T σ) ∧ (∀ i σ, K i = some σ → Ok T σ) ∧ n ≤ 120 ∧ (∀ i, i < n → S i < 256) ∧ L.length ≤ 14 := hk
  obtain ⟨hW, hB⟩ := id ok1
  obtain ⟨hb0, hb3, hb4, hb5, hb6, hb7⟩ := id hB
  obtain ⟨w1, w2, w7, w8, w9, w10, w11, w11', w12, wB, wP⟩ := id hW
  refine x_aload_n dX5_coming_0 rfl ?_
  refine x_iload_n dX5_coming_1 rfl ?_
  refine x_callS (As := [_]) hO dX5_coming_2 o_X5_isFar s_X5_isFar l_X5_272 ⟨by decide, by decide⟩ ⟨by decide, by decide⟩ rfl rfl (Nat.le_of_ble_eq_true rfl) (r_isFar hO (fun r2 hr2 => ?_))
  dsimp only [Option.toList, List.cons_append, List.nil_append]
  refine x_if_eq (tgt := 24) dX5_coming_5 (by decide) (fun c5 => ?_) (fun c5 => ?_)
  · have p2 := (ite01 hr2).1 c5
    refine x_iconst (v := nI 1) dX5_coming_24 (by decide) ?_
    refine x_callV (As := [_]) 7 hO dX5_coming_25 o_X5_refused v_X5_refused l_X5_137 ⟨by decide, by decide⟩ (by first | (simp only [gK_wI]; assumption) | assumption) ⟨by decide, by decide⟩ rfl ⟨by decide, by decide⟩ rfl rfl (Nat.le_of_ble_eq_true rfl) (t_ref hO hR (by decide) (fun r25 f25 hr25 z25 hR1 fr25 => ?_))
    dsimp only [Option.toList, List.cons_append, List.nil_append]
    refine x_if_eq (tgt := 33) dX5_coming_28 (by decide) (fun c28 => ?_) (fun c28 => ?_)
    · exact absurd (c28.symm.trans (hr25.trans (if_pos (by decide)))) (by decide)
    · have p25 := (ite01 hr25).2 c28
      refine x_iconst (v := nI 0) dX5_coming_31 (by decide) ?_
      refine x_iret dX5_coming_32 rfl rfl ?_
      have eA : aComing (S, n, ρ, L, K) w v = (1, 0, (S, n, ρ, L, K)) := by
        unfold aComing
        first
          | exact if_neg p2
          | (rw [if_pos p2]; exact if_neg p14)
      refine hq _ f25 ?_ (fun a ha => fr25 a (by omega)) ?_ ?_
      · rw [eA]
        exact hR1
      · rw [eA]
        exact z25
      · rw [eA]
        exact fun h => absurd h (Nat.succ_ne_zero _)
  · have p2 := (ite01 hr2).2 c5
    refine x_iload_n dX5_coming_8 rfl ?_
    refine x_i2l dX5_coming_9 ?_
    refine x_lconst (v := 0) dX5_coming_10 (by decide) ?_
    refine x_ldc2 hO.1 dX5_coming_11 k_X5_275 ?_
    refine x_callS (As := [_, _, _]) hO dX5_coming_14 o_X5_in s_X5_in l_X5_118 ⟨by decide, by decide⟩ ⟨by decide, by decide⟩ rfl rfl (Nat.le_of_ble_eq_true rfl) (r_inI (a := nI 0) (b := nI 3) hO (by decide) (by decide) (fun r14 hr14 => ?_))
    dsimp only [Option.toList, List.cons_append, List.nil_append]
    refine x_if_eq (tgt := 24) dX5_coming_17 (by decide) (fun c17 => ?_) (fun c17 => ?_)
    · have p14 := (ite01 hr14).1 c17
      refine x_iconst (v := nI 1) dX5_coming_24 (by decide) ?_
      refine x_callV (As := [_]) 7 hO dX5_coming_25 o_X5_refused v_X5_refused l_X5_137 ⟨by decide, by decide⟩ (by first | (simp only [gK_wI]; assumption) | assumption) ⟨by decide, by decide⟩ rfl ⟨by decide, by decide⟩ rfl rfl (Nat.le_of_ble_eq_true rfl) (t_ref hO hR (by decide) (fun r25 f25 hr25 z25 hR1 fr25 => ?_))
      dsimp only [Option.toList, List.cons_append, List.nil_append]
      refine x_if_eq (tgt := 33) dX5_coming_28 (by decide) (fun c28 => ?_) (fun c28 => ?_)
      · exact absurd (c28.symm.trans (hr25.trans (if_pos (by decide)))) (by decide)
      · have p25 := (ite01 hr25).2 c28
        refine x_iconst (v := nI 0) dX5_coming_31 (by decide) ?_
        refine x_iret dX5_coming_32 rfl rfl ?_
        have eA : aComing (S, n, ρ, L, K) w v = (1, 0, (S, n, ρ, L, K)) := by
          unfold aComing
          first
            | exact if_neg p2
            | (rw [if_pos p2]; exact if_neg p14)
        refine hq _ f25 ?_ (fun a ha => fr25 a (by omega)) ?_ ?_
        · rw [eA]
          exact hR1
        · rw [eA]
          exact z25
        · rw [eA]
          exact fun h => absurd h (Nat.succ_ne_zero _)
    · have p14 := (ite01 hr14).2 c17
      refine x_iconst (v := nI 0) dX5_coming_20 (by decide) ?_
      refine x_goto (tgt := 25) dX5_coming_21 (by decide) ?_
      refine x_callV (As := [_]) 7 hO dX5_coming_25 o_X5_refused v_X5_refused l_X5_137 ⟨by decide, by decide⟩ (by first | (simp only [gK_wI]; assumption) | assumption) ⟨by decide, by decide⟩ rfl ⟨by decide, by decide⟩ rfl rfl (Nat.le_of_ble_eq_true rfl) (t_ref hO hR (by decide) (fun r25 f25 hr25 z25 hR1 fr25 => ?_))
      dsimp only [Option.toList, List.cons_append, List.nil_append]
      refine x_if_eq (tgt := 33) dX5_coming_28 (by decide) (fun c28 => ?_) (fun c28 => ?_)
      · have p25 := (ite01 hr25).1 c28
        obtain ⟨k, y0, y9, rfl⟩ := (rng (by decide) (by decide)).mp p2
        obtain ⟨j, x0, x9, rfl⟩ := (rng (by decide) (by decide)).mp p14
        obtain ⟨hk, hM, hv⟩ := id hR1
        obtain ⟨hm0, ⟨g1, g6, g7, g8, g9, g10, g12, g13, g14, g15, g16, g17, g18⟩, k1, k2, k3, k4, k5, k6, k7, k8, k9, k10, k11, k12, k13, hmz⟩ := id hM
        obtain ⟨vn, vS, vN, vA, vH, vK⟩ : f25 m 2 = nI n ∧ (∀ i, i < n → f25 (m + 1) i = nI (S i)) ∧ Vr (f25) (m + 4) ρ ∧ f25 m 11 = nI L.length ∧ (∀ i σ, L[i]? = some σ → Vo (f25) (m + 6) (74 * i) σ) ∧ ∀ i, i < 2 → (K i = none → f25 (m + 8) i = 0) ∧ ∀ σ, K i = some σ → f25 (m + 8) i = 1 ∧ Vo (f25) (m + 7) (74 * i) σ := hv
        obtain ⟨ok1, ok2, ok3, ok4, ok5, ok6⟩ : Ok T ρ ∧ (∀ σ, σ ∈ L → Ok T σ) ∧ (∀ i σ, K i = some σ → Ok T σ) ∧ n ≤ 120 ∧ (∀ i, i < n → S i < 256) ∧ L.length ≤ 14 := hk
        obtain ⟨hW, hB⟩ := id ok1
        obtain ⟨hb0, hb3, hb4, hb5, hb6, hb7⟩ := id hB
        obtain ⟨w1, w2, w7, w8, w9, w10, w11, w11', w12, wB, wP⟩ := id hW
        have eA : aComing (S, n, ρ, L, K) (nI k) (nI j) = (0, nI (runN k ρ (3 + j)) - nI (ρ (3 + j)), (S, n, ρ, L, K)) := by
          unfold aComing
          rw [if_pos p2, if_pos p14, nI_clamp (show k < 2 ^ 31 by omega), nI_clamp (by omega)]
        refine x_aload_n dX5_coming_33 rfl ?_
        refine x_callV (As := []) 7 hO dX5_coming_34 o_X5_tryIt v_X5_tryIt l_X5_215 ⟨by decide, by decide⟩ (by first | (simp only [gK_wI]; assumption) | assumption) ⟨by decide, by decide⟩ rfl ⟨by decide, by decide⟩ rfl rfl (Nat.le_of_ble_eq_true rfl) (r_tryIt hO hT hR1 (fun f34 v34 r34 => ?_))
        dsimp only [Option.toList, List.cons_append, List.nil_append]
        simp only [gI_wI] at r34
        try simp only [wI_wI, gI_wI]
        refine x_aload_n dX5_coming_37 rfl ?_
        refine x_aload_n dX5_coming_38 rfl ?_
        refine x_get 7 hO dX5_coming_39 f_X5_22 (by first | (simp only [gK_wI]; assumption) | assumption) ⟨by decide, by decide⟩ (v := .ref (m + 5)) (congrArg va_rf g9) ?_
        refine x_iload_n dX5_coming_42 rfl ?_
        refine x_callV (As := [_, _]) 7 hO dX5_coming_43 o_X5_runIn v_X5_runIn l_X5_189 ⟨by decide, by decide⟩ (by first | (simp only [gK_wI]; assumption) | assumption) ⟨by decide, by decide⟩ rfl ⟨by decide, by decide⟩ rfl rfl (Nat.le_of_ble_eq_true rfl) (r_runIn hO k5 v34 hW hB (by omega) hM (by omega) (fun f43 v43 r43 => ?_))
        dsimp only [Option.toList, List.cons_append, List.nil_append]
        simp only [gI_wI] at r43
        try simp only [wI_wI, gI_wI]
        have SF : ∀ a, (a < m + 2 ∨ a = m + 4 ∨ (m + 6 ≤ a ∧ a ≤ m + 8) ∨ m + 14 ≤ a) → f43 a = f25 a := fun a ha => (r43 a (by omega) (by omega)).trans (r34 a (by omega))
        refine x_pop dX5_coming_46 rfl ?_
        refine x_aload_n dX5_coming_47 rfl ?_
        refine x_get 7 hO dX5_coming_48 f_X5_22 (by first | (simp only [gK_wI]; assumption) | assumption) ⟨by decide, by decide⟩ (v := .ref (m + 5)) (congrArg va_rf g9) ?_
        refine x_iconst (v := nI 3) dX5_coming_51 (by decide) ?_
        refine x_iload_n dX5_coming_52 rfl ?_
        refine x_iadd dX5_coming_53 ?_
        refine x_row (3 + j) hO dX5_coming_54 k5 v43 (nI_add _ _) (by omega) ?_
        refine x_aload_n dX5_coming_55 rfl ?_
        refine x_get 7 hO dX5_coming_56 f_X5_19 (by first | (simp only [gK_wI]; assumption) | assumption) ⟨by decide, by decide⟩ (v := .ref (m + 4)) (congrArg va_rf g8) ?_
        refine x_iconst (v := nI 3) dX5_coming_59 (by decide) ?_
        refine x_iload_n dX5_coming_60 rfl ?_
        refine x_iadd dX5_coming_61 ?_
        refine x_row (3 + j) hO dX5_coming_62 k4 (Vr_to vN (SF _ (by omega))) (nI_add _ _) (by omega) ?_
        refine x_isub dX5_coming_63 ?_
        refine x_iret dX5_coming_64 rfl rfl ?_
        refine hq _ f43 ?_ (fun a ha => (SF a (by omega)).trans (fr25 a (by omega))) ?_ ?_
        · rw [eA]
          exact RM_scr hR1 SF
        · rw [eA]
          exact (congrFun (SF m (by omega)) 0).trans z25
        · rw [eA]
          exact fun _ => rfl
      · exact absurd (hr25.trans (if_neg (by decide))) c28

theorem r_ifPlugged {G : GT} {C : AH} {Q : QT} {X : XT} {m T n : Nat} {S : Nat → Nat} {ρ : Rw} {L : List Rw} {K : Nat → Option Rw} {p w : Int32} (hO : GO G) (hT : T ≤ 40000) (hR : RM T C m (S, n, ρ, L, K)) (hq : ∀ (r : Int32) (f : Nat → Nat → Int32), RM (T) (wI C f) m (aIfP (S, n, ρ, L, K) p w).2.2 → (∀ a, (a < m ∨ m + 14 ≤ a) → f a = gI C a) → f m 0 = nI (aIfP (S, n, ρ, L, K) p w).1 → ((aIfP (S, n, ρ, L, K) p w).1 = 0 → r = (aIfP (S, n, ρ, L, K) p w).2.1) → Q (some (.int r)) (wI C f)) : Mt G M_X5_ifPlugged [.ref m, .int p, .int w] C Q X := by
  refine Mt_of (by decide) (Nat.le_of_ble_eq_true rfl) ?_
  obtain ⟨hk, hM, hv⟩ := id hR
  obtain ⟨hm0, ⟨g1, g6, g7, g8, g9, g10, g12, g13, g14, g15, g16, g17, g18⟩, k1, k2, k3, k4, k5, k6, k7, k8, k9, k10, k11, k12, k13, hmz⟩ := id hM
  obtain ⟨vn, vS, vN, vA, vH, vK⟩ : gI C m 2 = nI n ∧ (∀ i, i < n → gI C (m + 1) i = nI (S i)) ∧ Vr (gI C) (m + 4) ρ ∧ gI C m 11 = nI L.length ∧ (∀ i σ, L[i]? = some σ → Vo (gI C) (m + 6) (74 * i) σ) ∧ ∀ i, i < 2 → (K i = none → gI C (m + 8) i = 0) ∧ ∀ σ, K i = some σ → gI C (m + 8) i = 1 ∧ Vo (gI C) (m + 7) (74 * i) σ := hv
  obtain ⟨ok1, ok2, ok3, ok4, ok5, ok6⟩ : Ok T ρ ∧ (∀ σ, σ ∈ L → Ok T σ) ∧ (∀ i σ, K i = some σ → Ok T σ) ∧ n ≤ 120 ∧ (∀ i, i < n → S i < 256) ∧ L.length ≤ 14 := hk
  obtain ⟨hW, hB⟩ := id ok1
  obtain ⟨hb0, hb3, hb4, hb5, hb6, hb7⟩ := id hB
  obtain ⟨w1, w2, w7, w8, w9, w10, w11, w11', w12, wB, wP⟩ := id hW
  refine x_aload_n dX5_ifPlugged_0 rfl ?_
  refine x_iload_n dX5_ifPlugged_1 rfl ?_
  refine x_callS (As := [_]) hO dX5_ifPlugged_2 o_X5_isPower s_X5_isPower l_X5_254 ⟨by decide, by decide⟩ ⟨by decide, by decide⟩ rfl rfl (Nat.le_of_ble_eq_true rfl) (r_isPower hO (fun r2 hr2 => ?_))
  dsimp only [Option.toList, List.cons_append, List.nil_append]
  refine x_if_eq (tgt := 15) dX5_ifPlugged_5 (by decide) (fun c5 => ?_) (fun c5 => ?_)
  · have p2 := (ite01 hr2).1 c5
    refine x_iconst (v := nI 1) dX5_ifPlugged_15 (by decide) ?_
    refine x_goto (tgt := 34) dX5_ifPlugged_16 (by decide) ?_
    refine x_callV (As := [_]) 7 hO dX5_ifPlugged_34 o_X5_refused v_X5_refused l_X5_137 ⟨by decide, by decide⟩ (by first | (simp only [gK_wI]; assumption) | assumption) ⟨by decide, by decide⟩ rfl ⟨by decide, by decide⟩ rfl rfl (Nat.le_of_ble_eq_true rfl) (t_ref hO hR (by decide) (fun r34 f34 hr34 z34 hR1 fr34 => ?_))
    dsimp only [Option.toList, List.cons_append, List.nil_append]
    refine x_if_eq (tgt := 42) dX5_ifPlugged_37 (by decide) (fun c37 => ?_) (fun c37 => ?_)
    · exact absurd (c37.symm.trans (hr34.trans (if_pos (by decide)))) (by decide)
    · have p34 := (ite01 hr34).2 c37
      refine x_iconst (v := nI 0) dX5_ifPlugged_40 (by decide) ?_
      refine x_iret dX5_ifPlugged_41 rfl rfl ?_
      have eA : aIfP (S, n, ρ, L, K) p w = (1, 0, (S, n, ρ, L, K)) := by
        unfold aIfP
        first
          | exact if_neg p2
          | (rw [if_pos p2]; exact if_neg p9)
      refine hq _ f34 ?_ (fun a ha => fr34 a (by omega)) ?_ ?_
      · rw [eA]
        exact hR1
      · rw [eA]
        exact z34
      · rw [eA]
        exact fun h => absurd h (Nat.succ_ne_zero _)
  · have p2 := (ite01 hr2).2 c5
    refine x_iload_n dX5_ifPlugged_8 rfl ?_
    refine x_callS (As := [_]) hO dX5_ifPlugged_9 o_X5_isFar s_X5_isFar l_X5_272 ⟨by decide, by decide⟩ ⟨by decide, by decide⟩ rfl rfl (Nat.le_of_ble_eq_true rfl) (r_isFar hO (fun r9 hr9 => ?_))
    dsimp only [Option.toList, List.cons_append, List.nil_append]
    refine x_if_ne (tgt := 19) dX5_ifPlugged_12 (by decide) (fun c12 => ?_) (fun c12 => ?_)
    · have p9 := (ite01 hr9).2 c12
      refine x_aload_n dX5_ifPlugged_19 rfl ?_
      refine x_get 7 hO dX5_ifPlugged_20 f_X5_19 (by first | (simp only [gK_wI]; assumption) | assumption) ⟨by decide, by decide⟩ (v := .ref (m + 4)) (congrArg va_rf g8) ?_
      refine x_iconst (v := nI 2) dX5_ifPlugged_23 (by decide) ?_
      refine x_row _ hO dX5_ifPlugged_24 k4 vN rfl (by omega) ?_
      refine x_iconst (v := nI 5) dX5_ifPlugged_25 (by decide) ?_
      refine x_icmp_ne (tgt := 33) dX5_ifPlugged_26 (by decide) (fun c26 => ?_) (fun c26 => ?_)
      · refine x_iconst (v := nI 0) dX5_ifPlugged_33 (by decide) ?_
        refine x_callV (As := [_]) 7 hO dX5_ifPlugged_34 o_X5_refused v_X5_refused l_X5_137 ⟨by decide, by decide⟩ (by first | (simp only [gK_wI]; assumption) | assumption) ⟨by decide, by decide⟩ rfl ⟨by decide, by decide⟩ rfl rfl (Nat.le_of_ble_eq_true rfl) (t_ref hO hR (by decide) (fun r34 f34 hr34 z34 hR1 fr34 => ?_))
        dsimp only [Option.toList, List.cons_append, List.nil_append]
        refine x_if_eq (tgt := 42) dX5_ifPlugged_37 (by decide) (fun c37 => ?_) (fun c37 => ?_)
        · have p34 := (ite01 hr34).1 c37
          obtain ⟨q, y0, y9, rfl⟩ := (rng (by decide) (by decide)).mp p2
          obtain ⟨k, x0, x9, rfl⟩ := (rng (by decide) (by decide)).mp p9
          obtain ⟨hk, hM, hv⟩ := id hR1
          obtain ⟨hm0, ⟨g1, g6, g7, g8, g9, g10, g12, g13, g14, g15, g16, g17, g18⟩, k1, k2, k3, k4, k5, k6, k7, k8, k9, k10, k11, k12, k13, hmz⟩ := id hM
          obtain ⟨vn, vS, vN, vA, vH, vK⟩ : f34 m 2 = nI n ∧ (∀ i, i < n → f34 (m + 1) i = nI (S i)) ∧ Vr (f34) (m + 4) ρ ∧ f34 m 11 = nI L.length ∧ (∀ i σ, L[i]? = some σ → Vo (f34) (m + 6) (74 * i) σ) ∧ ∀ i, i < 2 → (K i = none → f34 (m + 8) i = 0) ∧ ∀ σ, K i = some σ → f34 (m + 8) i = 1 ∧ Vo (f34) (m + 7) (74 * i) σ := hv
          obtain ⟨ok1, ok2, ok3, ok4, ok5, ok6⟩ : Ok T ρ ∧ (∀ σ, σ ∈ L → Ok T σ) ∧ (∀ i σ, K i = some σ → Ok T σ) ∧ n ≤ 120 ∧ (∀ i, i < n → S i < 256) ∧ L.length ≤ 14 := hk
          obtain ⟨hW, hB⟩ := id ok1
          obtain ⟨hb0, hb3, hb4, hb5, hb6, hb7⟩ := id hB
          obtain ⟨w1, w2, w7, w8, w9, w10, w11, w11', w12, wB, wP⟩ := id hW
          have h59 : ρ 2 ≠ 5 := fun e => c26 (by rw [e])
          have okc := Ok_addC ok1 y0 y9 (by omega)
          have eA : aIfP (S, n, ρ, L, K) (nI q) (nI k) = (0, nI (runN k (addC ρ q) 5) - nI (ρ 5), (S, n, ρ, L, K)) := by
            unfold aIfP
            rw [if_pos p2, if_pos p9, nI_clamp (show q < 2 ^ 31 by omega), nI_clamp (by omega)]
            exact if_neg h59
          refine x_aload_n dX5_ifPlugged_42 rfl ?_
          refine x_callV (As := []) 7 hO dX5_ifPlugged_43 o_X5_tryIt v_X5_tryIt l_X5_215 ⟨by decide, by decide⟩ (by first | (simp only [gK_wI]; assumption) | assumption) ⟨by decide, by decide⟩ rfl ⟨by decide, by decide⟩ rfl rfl (Nat.le_of_ble_eq_true rfl) (r_tryIt hO hT hR1 (fun f43 v43 r43 => ?_))
          dsimp only [Option.toList, List.cons_append, List.nil_append]
          simp only [gI_wI] at r43
          try simp only [wI_wI, gI_wI]
          refine x_aload_n dX5_ifPlugged_46 rfl ?_
          refine x_get 7 hO dX5_ifPlugged_47 f_X5_22 (by first | (simp only [gK_wI]; assumption) | assumption) ⟨by decide, by decide⟩ (v := .ref (m + 5)) (congrArg va_rf g9) ?_
          refine x_iload_n dX5_ifPlugged_50 rfl ?_
          refine x_callS (As := [_, _]) hO dX5_ifPlugged_51 o_X5_addPlugIn s_X5_addPlugIn l_X5_186 ⟨by decide, by decide⟩ ⟨by decide, by decide⟩ rfl rfl (Nat.le_of_ble_eq_true rfl) (r_addPlugIn hO k5 v43 (by omega) (fun f51 v51 r51 => ?_))
          dsimp only [Option.toList, List.cons_append, List.nil_append]
          simp only [gI_wI] at r51
          try simp only [wI_wI, gI_wI]
          refine x_pop dX5_ifPlugged_54 rfl ?_
          refine x_aload_n dX5_ifPlugged_55 rfl ?_
          refine x_aload_n dX5_ifPlugged_56 rfl ?_
          refine x_get 7 hO dX5_ifPlugged_57 f_X5_22 (by first | (simp only [gK_wI]; assumption) | assumption) ⟨by decide, by decide⟩ (v := .ref (m + 5)) (congrArg va_rf g9) ?_
          refine x_iload_n dX5_ifPlugged_60 rfl ?_
          refine x_callV (As := [_, _]) 7 hO dX5_ifPlugged_61 o_X5_runIn v_X5_runIn l_X5_189 ⟨by decide, by decide⟩ (by first | (simp only [gK_wI]; assumption) | assumption) ⟨by decide, by decide⟩ rfl ⟨by decide, by decide⟩ rfl rfl (Nat.le_of_ble_eq_true rfl) (r_runIn hO k5 v51 okc.1 okc.2 (by omega) hM (by omega) (fun f61 v61 r61 => ?_))
          dsimp only [Option.toList, List.cons_append, List.nil_append]
          simp only [gI_wI] at r61
          try simp only [wI_wI, gI_wI]
          have SF : ∀ a, (a < m + 2 ∨ a = m + 4 ∨ (m + 6 ≤ a ∧ a ≤ m + 8) ∨ m + 14 ≤ a) → f61 a = f34 a := fun a ha => (r61 a (by omega) (by omega)).trans ((r51 a (by omega)).trans (r43 a (by omega)))
          refine x_pop dX5_ifPlugged_64 rfl ?_
          refine x_aload_n dX5_ifPlugged_65 rfl ?_
          refine x_get 7 hO dX5_ifPlugged_66 f_X5_22 (by first | (simp only [gK_wI]; assumption) | assumption) ⟨by decide, by decide⟩ (v := .ref (m + 5)) (congrArg va_rf g9) ?_
          refine x_iconst (v := nI 5) dX5_ifPlugged_69 (by decide) ?_
          refine x_row 5 hO dX5_ifPlugged_70 k5 v61 rfl (by decide) ?_
          refine x_aload_n dX5_ifPlugged_71 rfl ?_
          refine x_get 7 hO dX5_ifPlugged_72 f_X5_19 (by first | (simp only [gK_wI]; assumption) | assumption) ⟨by decide, by decide⟩ (v := .ref (m + 4)) (congrArg va_rf g8) ?_
          refine x_iconst (v := nI 5) dX5_ifPlugged_75 (by decide) ?_
          refine x_row 5 hO dX5_ifPlugged_76 k4 (Vr_to vN (SF _ (by omega))) rfl (by decide) ?_
          refine x_isub dX5_ifPlugged_77 ?_
          refine x_iret dX5_ifPlugged_78 rfl rfl ?_
          refine hq _ f61 ?_ (fun a ha => (SF a (by omega)).trans (fr34 a (by omega))) ?_ ?_
          · rw [eA]
            exact RM_scr hR1 SF
          · rw [eA]
            exact (congrFun (SF m (by omega)) 0).trans z34
          · rw [eA]
            exact fun _ => rfl
        · exact absurd (hr34.trans (if_neg (by decide))) c37
      · refine x_iconst (v := nI 2) dX5_ifPlugged_29 (by decide) ?_
        refine x_goto (tgt := 34) dX5_ifPlugged_30 (by decide) ?_
        refine x_callV (As := [_]) 7 hO dX5_ifPlugged_34 o_X5_refused v_X5_refused l_X5_137 ⟨by decide, by decide⟩ (by first | (simp only [gK_wI]; assumption) | assumption) ⟨by decide, by decide⟩ rfl ⟨by decide, by decide⟩ rfl rfl (Nat.le_of_ble_eq_true rfl) (t_ref hO hR (by decide) (fun r34 f34 hr34 z34 hR1 fr34 => ?_))
        dsimp only [Option.toList, List.cons_append, List.nil_append]
        refine x_if_eq (tgt := 42) dX5_ifPlugged_37 (by decide) (fun c37 => ?_) (fun c37 => ?_)
        · exact absurd (c37.symm.trans (hr34.trans (if_pos (by decide)))) (by decide)
        · have p34 := (ite01 hr34).2 c37
          refine x_iconst (v := nI 0) dX5_ifPlugged_40 (by decide) ?_
          refine x_iret dX5_ifPlugged_41 rfl rfl ?_
          have eA : aIfP (S, n, ρ, L, K) p w = (2, 0, (S, n, ρ, L, K)) := by
            unfold aIfP
            rw [if_pos p2, if_pos p9]
            exact if_pos ((nI_eq (by omega) (by decide)).mp c26)
          refine hq _ f34 ?_ (fun a ha => fr34 a (by omega)) ?_ ?_
          · rw [eA]
            exact hR1
          · rw [eA]
            exact z34
          · rw [eA]
            exact fun h => absurd h (Nat.succ_ne_zero _)
    · have p9 := (ite01 hr9).1 c12
      refine x_iconst (v := nI 1) dX5_ifPlugged_15 (by decide) ?_
      refine x_goto (tgt := 34) dX5_ifPlugged_16 (by decide) ?_
      refine x_callV (As := [_]) 7 hO dX5_ifPlugged_34 o_X5_refused v_X5_refused l_X5_137 ⟨by decide, by decide⟩ (by first | (simp only [gK_wI]; assumption) | assumption) ⟨by decide, by decide⟩ rfl ⟨by decide, by decide⟩ rfl rfl (Nat.le_of_ble_eq_true rfl) (t_ref hO hR (by decide) (fun r34 f34 hr34 z34 hR1 fr34 => ?_))
      dsimp only [Option.toList, List.cons_append, List.nil_append]
      refine x_if_eq (tgt := 42) dX5_ifPlugged_37 (by decide) (fun c37 => ?_) (fun c37 => ?_)
      · exact absurd (c37.symm.trans (hr34.trans (if_pos (by decide)))) (by decide)
      · have p34 := (ite01 hr34).2 c37
        refine x_iconst (v := nI 0) dX5_ifPlugged_40 (by decide) ?_
        refine x_iret dX5_ifPlugged_41 rfl rfl ?_
        have eA : aIfP (S, n, ρ, L, K) p w = (1, 0, (S, n, ρ, L, K)) := by
          unfold aIfP
          first
            | exact if_neg p2
            | (rw [if_pos p2]; exact if_neg p9)
        refine hq _ f34 ?_ (fun a ha => fr34 a (by omega)) ?_ ?_
        · rw [eA]
          exact hR1
        · rw [eA]
          exact z34
        · rw [eA]
          exact fun h => absurd h (Nat.succ_ne_zero _)

theorem back_6 {ρ : Rw} {n j : Nat} (hj : j < n) : itB cb1 n ρ (bi j 6) = if ρ (bi j 4) = ρ 0 % 24 then 0 else ρ (bi j 6) := by
  induction n with
  | zero => exact absurd hj (Nat.not_lt_zero j)
  | succ n ih =>
    show cb1 n (itB cb1 n ρ) (bi j 6) = _
    have e4 : itB cb1 n ρ (bi n 4) = ρ (bi n 4) := itB_o (P := fun b j => j ≠ bi b 6) (fun _ _ _ h => cb1_o h) (fun b hb => by simp only [bi]; omega)
    have e0 : itB cb1 n ρ 0 = ρ 0 := itB_o (P := fun b j => j ≠ bi b 6) (fun _ _ _ h => cb1_o h) (fun b hb => by simp only [bi]; omega)
    by_cases e : j = n
    · subst e
      have e6 : itB cb1 j ρ (bi j 6) = ρ (bi j 6) := itB_o (P := fun b j => j ≠ bi b 6) (fun _ _ _ h => cb1_o h) (fun b hb => by simp only [bi]; omega)
      by_cases c : itB cb1 j ρ (bi j 4) = itB cb1 j ρ 0 % 24
      · rw [cb1_e1 c, uN_s, if_pos (by rw [← e4, ← e0]; exact c)]
      · rw [cb1_e2 c, e6, if_neg (by rw [← e4, ← e0]; exact c)]
    · rw [cb1_o (by simp only [bi]; omega)]
      exact ih (by omega)
theorem back_k {ρ : Rw} {k : Nat} (h : ∀ b, b < ρ 1 → k ≠ bi b 6) : back ρ k = ρ k := back_o h
theorem back_back {ρ : Rw} : back (back ρ) = back ρ := by
  have e1 : back ρ 1 = ρ 1 := back_k fun b hb => by simp only [bi]; omega
  have e0 : back ρ 0 = ρ 0 := back_k fun b hb => by simp only [bi]; omega
  have key : ∀ n, n ≤ ρ 1 → itB cb1 n (back ρ) = back ρ := by
    intro n
    induction n with
    | zero => intro _; rfl
    | succ n ih =>
      intro hn
      show cb1 n (itB cb1 n (back ρ)) = back ρ
      rw [ih (by omega)]
      by_cases c : back ρ (bi n 4) = back ρ 0 % 24
      · rw [cb1_e1 c]
        have e4 : back ρ (bi n 4) = ρ (bi n 4) := back_k fun b hb => by simp only [bi]; omega
        have e6 : back ρ (bi n 6) = 0 := (back_6 (by omega)).trans (if_pos (by rw [← e4, ← e0]; exact c))
        have q : uN (back ρ) (bi n 6) (back ρ (bi n 6)) = back ρ := uN_id
        rw [e6] at q
        exact q
      · exact cb1_e2 c
  show itB cb1 (back ρ 1) (back ρ) = back ρ
  rw [e1]
  exact key _ (Nat.le_refl _)
theorem hour1_back {ρ : Rw} : hour1 (back ρ) = hour1 ρ := by
  have e1 : back ρ 1 = ρ 1 := back_k fun b hb => by simp only [bi]; omega
  have e0 : back ρ 0 = ρ 0 := back_k fun b hb => by simp only [bi]; omega
  have em : mved (back ρ) = mved ρ := by unfold mved; rw [back_back]
  unfold hour1
  rw [em, e1, e0]
theorem msd_back {ρ : Rw} {j : Nat} (hW : Wf ρ) (hj : j < ρ 1) : msd (back ρ) j ↔ msd ρ j := by
  obtain ⟨b0, b0', b1, b2, b2', b3, b4, b34, b6⟩ := hW.2.2.2.2.2.2.2.2.2.1 j hj
  have e0 : back ρ 0 = ρ 0 := back_k fun b hb => by simp only [bi]; omega
  have e : ∀ w, w < 6 → back ρ (bi j w) = ρ (bi j w) := fun w hw => back_k fun b hb => by simp only [bi]; omega
  have e6 : back ρ (bi j 6) = if ρ (bi j 4) = ρ 0 % 24 then 0 else ρ (bi j 6) := back_6 hj
  show (back ρ (bi j 6) = 0 ∧ back ρ (bi j 3) = back ρ 0 % 24) ∧ back ρ (bi j 1) < back ρ (bi j 2) ↔ (ρ (bi j 6) = 0 ∧ ρ (bi j 3) = ρ 0 % 24) ∧ ρ (bi j 1) < ρ (bi j 2)
  rw [e6, e0, e 3 (by decide), e 1 (by decide), e 2 (by decide)]
  by_cases c : ρ (bi j 4) = ρ 0 % 24
  · rw [if_pos c]
    constructor
    · rintro ⟨⟨-, h⟩, -⟩; omega
    · rintro ⟨⟨-, h⟩, -⟩; omega
  · rw [if_neg c]
theorem r_leavesNow {G : GT} {C : AH} {Q : QT} {X : XT} {m j : Nat} {ρ : Rw} (hO : GO G) (hM : MdS C m) (hV : Vr (gI C) (m + 5) ρ) (h0 : ρ 0 < 1000000) (hj : j < 8) (h6 : ρ (bi j 6) < 1000000) (h3 : ρ (bi j 3) < 1000000) (hq : ∀ r : Int32, r = (if ρ (bi j 6) = 0 ∧ ρ (bi j 3) = ρ 0 % 24 then 1 else 0) → Q (some (.int r)) C) : Mt G M_X5_leavesNow [.ref m, .int (nI j)] C Q X := by
  refine Mt_of (by decide) (Nat.le_of_ble_eq_true rfl) ?_
  obtain ⟨hm0, ⟨g1, g6, g7, g8, g9, g10, g12, g13, g14, g15, g16, g17, g18⟩, k1, k2, k3, k4, k5, k6, k7, k8, k9, k10, k11, k12, k13, hmz⟩ := id hM
  refine x_aload_n dX5_leavesNow_0 rfl ?_
  refine x_get 7 hO dX5_leavesNow_1 f_X5_22 (by first | (simp only [gK_wI]; assumption) | assumption) ⟨by decide, by decide⟩ (v := .ref (m + 5)) (congrArg va_rf g9) ?_
  refine x_iload_n dX5_leavesNow_4 rfl ?_
  refine x_bipush (v := nI 6) dX5_leavesNow_5 (by decide) ?_
  refine x_callS (As := [_, _]) hO dX5_leavesNow_7 o_X5_busAt s_X5_busAt l_X5_67 ⟨by decide, by decide⟩ ⟨by decide, by decide⟩ rfl rfl (Nat.le_of_ble_eq_true rfl) (r_busAt hO ?_)
  dsimp only [Option.toList, List.cons_append, List.nil_append]
  refine x_row _ hO dX5_leavesNow_10 k5 hV rfl (by simp only [bi]; omega) ?_
  refine x_if_ne (tgt := 40) dX5_leavesNow_11 (by decide) (fun c11 => ?_) (fun c11 => ?_)
  · simp (disch := omega) only [nI_z] at c11
    refine x_iconst (v := nI 0) dX5_leavesNow_40 (by decide) ?_
    refine x_iret dX5_leavesNow_41 rfl (by first | rfl | assumption) ?_
    exact hq _ (by first | exact (if_pos ⟨by omega, by omega⟩).symm | exact (if_neg (by omega)).symm)
  · simp (disch := omega) only [nI_z] at c11
    refine x_aload_n dX5_leavesNow_14 rfl ?_
    refine x_get 7 hO dX5_leavesNow_15 f_X5_22 (by first | (simp only [gK_wI]; assumption) | assumption) ⟨by decide, by decide⟩ (v := .ref (m + 5)) (congrArg va_rf g9) ?_
    refine x_iload_n dX5_leavesNow_18 rfl ?_
    refine x_iconst (v := nI 3) dX5_leavesNow_19 (by decide) ?_
    refine x_callS (As := [_, _]) hO dX5_leavesNow_20 o_X5_busAt s_X5_busAt l_X5_67 ⟨by decide, by decide⟩ ⟨by decide, by decide⟩ rfl rfl (Nat.le_of_ble_eq_true rfl) (r_busAt hO ?_)
    dsimp only [Option.toList, List.cons_append, List.nil_append]
    refine x_row _ hO dX5_leavesNow_23 k5 hV rfl (by simp only [bi]; omega) ?_
    refine x_aload_n dX5_leavesNow_24 rfl ?_
    refine x_get 7 hO dX5_leavesNow_25 f_X5_22 (by first | (simp only [gK_wI]; assumption) | assumption) ⟨by decide, by decide⟩ (v := .ref (m + 5)) (congrArg va_rf g9) ?_
    refine x_iconst (v := nI 0) dX5_leavesNow_28 (by decide) ?_
    refine x_row _ hO dX5_leavesNow_29 k5 hV rfl (by omega) ?_
    refine x_bipush (v := nI 24) dX5_leavesNow_30 (by decide) ?_
    refine x_irem dX5_leavesNow_32 (by decide) ?_
    rw [pk_rem (by omega) (by decide) (by decide)]
    refine x_icmp_ne (tgt := 40) dX5_leavesNow_33 (by decide) (fun c33 => ?_) (fun c33 => ?_)
    · simp (disch := omega) only [nI_eq] at c33
      refine x_iconst (v := nI 0) dX5_leavesNow_40 (by decide) ?_
      refine x_iret dX5_leavesNow_41 rfl (by first | rfl | assumption) ?_
      exact hq _ (by first | exact (if_pos ⟨by omega, by omega⟩).symm | exact (if_neg (by omega)).symm)
    · simp (disch := omega) only [nI_eq] at c33
      refine x_iconst (v := nI 1) dX5_leavesNow_36 (by decide) ?_
      refine x_goto (tgt := 41) dX5_leavesNow_37 (by decide) ?_
      refine x_iret dX5_leavesNow_41 rfl (by first | rfl | assumption) ?_
      exact hq _ (by first | exact (if_pos ⟨by omega, by omega⟩).symm | exact (if_neg (by omega)).symm)

theorem r_firstMissed {G : GT} {C : AH} {Q : QT} {X : XT} {m T n : Nat} {S : Nat → Nat} {ρ : Rw} {L : List Rw} {K : Nat → Option Rw} {b : Int32} (hO : GO G) (hT : T ≤ 40000) (hR : RM T C m (S, n, ρ, L, K)) (hq : ∀ (r : Int32) (f : Nat → Nat → Int32), RM (T) (wI C f) m (aFirst (S, n, ρ, L, K) b).2.2 → (∀ a, (a < m ∨ m + 14 ≤ a) → f a = gI C a) → f m 0 = nI (aFirst (S, n, ρ, L, K) b).1 → ((aFirst (S, n, ρ, L, K) b).1 = 0 → r = (aFirst (S, n, ρ, L, K) b).2.1) → Q (some (.int r)) (wI C f)) : Mt G M_X5_firstMissed [.ref m, .int b] C Q X := by
  refine Mt_of (by decide) (Nat.le_of_ble_eq_true rfl) ?_
  obtain ⟨hk, hM, hv⟩ := id hR
  obtain ⟨hm0, ⟨g1, g6, g7, g8, g9, g10, g12, g13, g14, g15, g16, g17, g18⟩, k1, k2, k3, k4, k5, k6, k7, k8, k9, k10, k11, k12, k13, hmz⟩ := id hM
  obtain ⟨vn, vS, vN, vA, vH, vK⟩ : gI C m 2 = nI n ∧ (∀ i, i < n → gI C (m + 1) i = nI (S i)) ∧ Vr (gI C) (m + 4) ρ ∧ gI C m 11 = nI L.length ∧ (∀ i σ, L[i]? = some σ → Vo (gI C) (m + 6) (74 * i) σ) ∧ ∀ i, i < 2 → (K i = none → gI C (m + 8) i = 0) ∧ ∀ σ, K i = some σ → gI C (m + 8) i = 1 ∧ Vo (gI C) (m + 7) (74 * i) σ := hv
  obtain ⟨ok1, ok2, ok3, ok4, ok5, ok6⟩ : Ok T ρ ∧ (∀ σ, σ ∈ L → Ok T σ) ∧ (∀ i σ, K i = some σ → Ok T σ) ∧ n ≤ 120 ∧ (∀ i, i < n → S i < 256) ∧ L.length ≤ 14 := hk
  obtain ⟨hW, hB⟩ := id ok1
  obtain ⟨hb0, hb3, hb4, hb5, hb6, hb7⟩ := id hB
  obtain ⟨w1, w2, w7, w8, w9, w10, w11, w11', w12, wB, wP⟩ := id hW
  refine x_aload_n dX5_firstMissed_0 rfl ?_
  refine x_aload_n dX5_firstMissed_1 rfl ?_
  refine x_iload_n dX5_firstMissed_2 rfl ?_
  refine x_callV (As := [_]) 7 hO dX5_firstMissed_3 o_X5_isBus v_X5_isBus l_X5_212 ⟨by decide, by decide⟩ (by first | (simp only [gK_wI]; assumption) | assumption) ⟨by decide, by decide⟩ rfl ⟨by decide, by decide⟩ rfl rfl (Nat.le_of_ble_eq_true rfl) (r_isBus hO hM vN (fun r3 hr3 => ?_))
  dsimp only [Option.toList, List.cons_append, List.nil_append]
  refine x_if_eq (tgt := 13) dX5_firstMissed_6 (by decide) (fun c6 => ?_) (fun c6 => ?_)
  · have p3 := (ite01 hr3).1 c6
    refine x_iconst (v := nI 1) dX5_firstMissed_13 (by decide) ?_
    refine x_callV (As := [_]) 7 hO dX5_firstMissed_14 o_X5_refused v_X5_refused l_X5_137 ⟨by decide, by decide⟩ (by first | (simp only [gK_wI]; assumption) | assumption) ⟨by decide, by decide⟩ rfl ⟨by decide, by decide⟩ rfl rfl (Nat.le_of_ble_eq_true rfl) (t_ref hO hR (by decide) (fun r14 f14 hr14 z14 hR1 fr14 => ?_))
    dsimp only [Option.toList, List.cons_append, List.nil_append]
    refine x_if_eq (tgt := 22) dX5_firstMissed_17 (by decide) (fun c17 => ?_) (fun c17 => ?_)
    · exact absurd (c17.symm.trans (hr14.trans (if_pos (by decide)))) (by decide)
    · have p14 := (ite01 hr14).2 c17
      refine x_iconst (v := nI 0) dX5_firstMissed_20 (by decide) ?_
      refine x_iret dX5_firstMissed_21 rfl rfl ?_
      have eA : aFirst (S, n, ρ, L, K) b = (1, 0, (S, n, ρ, L, K)) := if_neg p3
      refine hq _ f14 ?_ (fun a ha => fr14 a (by omega)) ?_ ?_
      · rw [eA]
        exact hR1
      · rw [eA]
        exact z14
      · rw [eA]
        exact fun h => absurd h (Nat.succ_ne_zero _)
  · have p3 := (ite01 hr3).2 c6
    obtain ⟨j, hj, rfl⟩ := (ix_of (by omega)).mp p3
    refine x_iconst (v := nI 0) dX5_firstMissed_9 (by decide) ?_
    refine x_goto (tgt := 14) dX5_firstMissed_10 (by decide) ?_
    refine x_callV (As := [_]) 7 hO dX5_firstMissed_14 o_X5_refused v_X5_refused l_X5_137 ⟨by decide, by decide⟩ (by first | (simp only [gK_wI]; assumption) | assumption) ⟨by decide, by decide⟩ rfl ⟨by decide, by decide⟩ rfl rfl (Nat.le_of_ble_eq_true rfl) (t_ref hO hR (by decide) (fun r14 f14 hr14 z14 hR1 fr14 => ?_))
    dsimp only [Option.toList, List.cons_append, List.nil_append]
    refine x_if_eq (tgt := 22) dX5_firstMissed_17 (by decide) (fun c17 => ?_) (fun c17 => ?_)
    · have p14 := (ite01 hr14).1 c17
      obtain ⟨hk, hM, hv⟩ := id hR1
      obtain ⟨hm0, ⟨g1, g6, g7, g8, g9, g10, g12, g13, g14, g15, g16, g17, g18⟩, k1, k2, k3, k4, k5, k6, k7, k8, k9, k10, k11, k12, k13, hmz⟩ := id hM
      obtain ⟨vn, vS, vN, vA, vH, vK⟩ : f14 m 2 = nI n ∧ (∀ i, i < n → f14 (m + 1) i = nI (S i)) ∧ Vr (f14) (m + 4) ρ ∧ f14 m 11 = nI L.length ∧ (∀ i σ, L[i]? = some σ → Vo (f14) (m + 6) (74 * i) σ) ∧ ∀ i, i < 2 → (K i = none → f14 (m + 8) i = 0) ∧ ∀ σ, K i = some σ → f14 (m + 8) i = 1 ∧ Vo (f14) (m + 7) (74 * i) σ := hv
      obtain ⟨ok1, ok2, ok3, ok4, ok5, ok6⟩ : Ok T ρ ∧ (∀ σ, σ ∈ L → Ok T σ) ∧ (∀ i σ, K i = some σ → Ok T σ) ∧ n ≤ 120 ∧ (∀ i, i < n → S i < 256) ∧ L.length ≤ 14 := hk
      obtain ⟨hW, hB⟩ := id ok1
      obtain ⟨hb0, hb3, hb4, hb5, hb6, hb7⟩ := id hB
      obtain ⟨w1, w2, w7, w8, w9, w10, w11, w11', w12, wB, wP⟩ := id hW
      have eA : aFirst (S, n, ρ, L, K) (nI j) = (0, fmS j 72 ρ, (S, n, ρ, L, K)) := by
        unfold aFirst
        rw [if_pos p3, nI_clamp (show j < 2 ^ 31 by omega)]
      refine x_aload_n dX5_firstMissed_22 rfl ?_
      refine x_callV (As := []) 7 hO dX5_firstMissed_23 o_X5_tryIt v_X5_tryIt l_X5_215 ⟨by decide, by decide⟩ (by first | (simp only [gK_wI]; assumption) | assumption) ⟨by decide, by decide⟩ rfl ⟨by decide, by decide⟩ rfl rfl (Nat.le_of_ble_eq_true rfl) (r_tryIt hO hT hR1 (fun f23 v23 r23 => ?_))
      dsimp only [Option.toList, List.cons_append, List.nil_append]
      refine x_iconst (v := nI 0) dX5_firstMissed_26 (by decide) ?_
      refine x_istore_n dX5_firstMissed_27 (by decide) ?_
      have loop : ∀ (m9 i : Nat) (f : Nat → Nat → Int32), 72 - i = m9 → i ≤ 72 → Vr f (m + 5) (runN i ρ) → (∀ a, (a < m + 2 ∨ a = m + 4 ∨ (m + 6 ≤ a ∧ a ≤ m + 8) ∨ m + 14 ≤ a) → f a = f14 a) → fmS j 72 ρ = fmS j (72 - i) (runN i ρ) → Ex G M_X5_firstMissed Q X (mC M_X5_firstMissed) (mS M_X5_firstMissed) 28 [(0, .ref m), (1, .int (nI j)), (2, .int (nI i))] [] (wI C f) := by
        intro m9
        induction m9 using Nat.strongRecOn with
        | _ m9 ih =>
        intro i f hm9 hi72 hVf SF hE
        obtain ⟨hW2, hB2, hn1⟩ := runN_ok (n := i) hW hB
        have hWb := (Wf_back hW2).1
        have hBb := Bd_back hB2 hW2.1
        have b00 : back (runN i ρ) 0 = runN i ρ 0 := back_k fun b hb => by simp only [bi]; omega
        have g0 := hB2.1
        obtain ⟨b0, b0', b1, b2, b2', b3, b4, b34, b6⟩ := hWb.2.2.2.2.2.2.2.2.2.1 j (by rw [(Wf_back hW2).2, hn1]; exact hj)
        refine x_iload_n dX5_firstMissed_28 rfl ?_
        refine x_bipush (v := nI 72) dX5_firstMissed_29 (by decide) ?_
        refine x_icmp_ge (tgt := 81) dX5_firstMissed_31 (by decide) (fun c31 => ?_) (fun c31 => ?_)
        · simp (disch := omega) only [nI_leI] at c31
          refine x_iconst (v := (-1)) dX5_firstMissed_81 (by decide) ?_
          refine x_iret dX5_firstMissed_82 rfl rfl ?_
          have : i = 72 := by omega
          subst this
          refine hq _ f ?_ (fun a ha => (SF a (by omega)).trans (fr14 a (by omega))) ?_ ?_
          · rw [eA]
            exact RM_scr hR1 SF
          · rw [eA]
            exact (congrFun (SF m (by omega)) 0).trans z14
          · rw [eA]
            exact (by rw [hE]; exact fun _ => rfl)
        · simp (disch := omega) only [nI_leI] at c31
          refine x_aload_n dX5_firstMissed_34 rfl ?_
          refine x_get 7 hO dX5_firstMissed_35 f_X5_22 (by first | (simp only [gK_wI]; assumption) | assumption) ⟨by decide, by decide⟩ (v := .ref (m + 5)) (congrArg va_rf g9) ?_
          refine x_callS (As := [_]) hO dX5_firstMissed_38 o_X5_comeBack s_X5_comeBack l_X5_104 ⟨by decide, by decide⟩ ⟨by decide, by decide⟩ rfl rfl (Nat.le_of_ble_eq_true rfl) (r_comeBack (C := wI C f) hO k5 hVf hW2 (by omega) (fun f38 v38 r38 => ?_))
          dsimp only [Option.toList, List.cons_append, List.nil_append]
          simp only [gI_wI] at r38
          try simp only [wI_wI, gI_wI]
          refine x_aload_n dX5_firstMissed_41 rfl ?_
          refine x_iload_n dX5_firstMissed_42 rfl ?_
          refine x_callV (As := [_]) 7 hO dX5_firstMissed_43 o_X5_leavesNow v_X5_leavesNow l_X5_277 ⟨by decide, by decide⟩ (by first | (simp only [gK_wI]; assumption) | assumption) ⟨by decide, by decide⟩ rfl ⟨by decide, by decide⟩ rfl rfl (Nat.le_of_ble_eq_true rfl) (r_leavesNow (C := wI C f38) hO hM v38 (by omega) (by omega) (by omega) (by omega) (fun r43 hr43 => ?_))
          dsimp only [Option.toList, List.cons_append, List.nil_append]
          refine x_if_eq (tgt := 67) dX5_firstMissed_46 (by decide) (fun c46 => ?_) (fun c46 => ?_)
          · have p43 := (ite01 hr43).1 c46
            have hnm : ¬ msd (back (runN i ρ)) j := fun q => p43 q.1
            refine x_aload_n dX5_firstMissed_67 rfl ?_
            refine x_aload_n dX5_firstMissed_68 rfl ?_
            refine x_get 7 hO dX5_firstMissed_69 f_X5_22 (by first | (simp only [gK_wI]; assumption) | assumption) ⟨by decide, by decide⟩ (v := .ref (m + 5)) (congrArg va_rf g9) ?_
            refine x_callV (As := [_]) 7 hO dX5_firstMissed_72 o_X5_hourIn v_X5_hourIn l_X5_113 ⟨by decide, by decide⟩ (by first | (simp only [gK_wI]; assumption) | assumption) ⟨by decide, by decide⟩ rfl ⟨by decide, by decide⟩ rfl rfl (Nat.le_of_ble_eq_true rfl) (r_hourIn (C := wI C f38) hO k5 v38 hWb hBb (by omega) hM (by omega) (fun f72 v72 r72 => ?_))
            dsimp only [Option.toList, List.cons_append, List.nil_append]
            simp only [gI_wI] at r72
            try simp only [wI_wI, gI_wI]
            rw [hour1_back] at v72
            refine x_iinc (v := nI 1) dX5_firstMissed_75 rfl (by decide) (by decide) ?_
            refine x_goto (tgt := 28) dX5_firstMissed_78 (by decide) ?_
            refine x_ls [(0, .ref m), (1, .int (nI j)), (2, .int (nI (i + 1)))] ⟨rfl, rfl, (by rw [← nI_add]; rfl), trivial⟩ ?_
            refine ih (m9 - 1) (by omega) (i + 1) f72 (by omega) (by omega) v72 (fun a ha => (r72 a (by omega) (by omega)).trans ((r38 a (by omega)).trans (SF a ha))) ?_
            rw [hE, show 72 - i = 72 - (i + 1) + 1 by omega]
            show (if msd (runN i ρ) j then _ else _) = _
            rw [if_neg (fun q => hnm ((msd_back hW2 (by rw [hn1]; exact hj)).mpr q))]
            rfl
          · have p43 := (ite01 hr43).2 c46
            refine x_aload_n dX5_firstMissed_49 rfl ?_
            refine x_get 7 hO dX5_firstMissed_50 f_X5_22 (by first | (simp only [gK_wI]; assumption) | assumption) ⟨by decide, by decide⟩ (v := .ref (m + 5)) (congrArg va_rf g9) ?_
            refine x_iload_n dX5_firstMissed_53 rfl ?_
            refine x_callS (As := [_, _]) hO dX5_firstMissed_54 o_X5_isLow s_X5_isLow l_X5_71 ⟨by decide, by decide⟩ ⟨by decide, by decide⟩ rfl rfl (Nat.le_of_ble_eq_true rfl) (r_isLow (C := wI C f38) hO k5 v38 (by omega) ⟨by omega, by omega, by omega⟩ (fun r54 hr54 => ?_))
            dsimp only [Option.toList, List.cons_append, List.nil_append]
            refine x_if_eq (tgt := 67) dX5_firstMissed_57 (by decide) (fun c57 => ?_) (fun c57 => ?_)
            · have p54 := (ite01 hr54).1 c57
              have hnm : ¬ msd (back (runN i ρ)) j := fun q => p54 ⟨q.1.1, q.2⟩
              refine x_aload_n dX5_firstMissed_67 rfl ?_
              refine x_aload_n dX5_firstMissed_68 rfl ?_
              refine x_get 7 hO dX5_firstMissed_69 f_X5_22 (by first | (simp only [gK_wI]; assumption) | assumption) ⟨by decide, by decide⟩ (v := .ref (m + 5)) (congrArg va_rf g9) ?_
              refine x_callV (As := [_]) 7 hO dX5_firstMissed_72 o_X5_hourIn v_X5_hourIn l_X5_113 ⟨by decide, by decide⟩ (by first | (simp only [gK_wI]; assumption) | assumption) ⟨by decide, by decide⟩ rfl ⟨by decide, by decide⟩ rfl rfl (Nat.le_of_ble_eq_true rfl) (r_hourIn (C := wI C f38) hO k5 v38 hWb hBb (by omega) hM (by omega) (fun f72 v72 r72 => ?_))
              dsimp only [Option.toList, List.cons_append, List.nil_append]
              simp only [gI_wI] at r72
              try simp only [wI_wI, gI_wI]
              rw [hour1_back] at v72
              refine x_iinc (v := nI 1) dX5_firstMissed_75 rfl (by decide) (by decide) ?_
              refine x_goto (tgt := 28) dX5_firstMissed_78 (by decide) ?_
              refine x_ls [(0, .ref m), (1, .int (nI j)), (2, .int (nI (i + 1)))] ⟨rfl, rfl, (by rw [← nI_add]; rfl), trivial⟩ ?_
              refine ih (m9 - 1) (by omega) (i + 1) f72 (by omega) (by omega) v72 (fun a ha => (r72 a (by omega) (by omega)).trans ((r38 a (by omega)).trans (SF a ha))) ?_
              rw [hE, show 72 - i = 72 - (i + 1) + 1 by omega]
              show (if msd (runN i ρ) j then _ else _) = _
              rw [if_neg (fun q => hnm ((msd_back hW2 (by rw [hn1]; exact hj)).mpr q))]
              rfl
            · have p54 := (ite01 hr54).2 c57
              refine x_aload_n dX5_firstMissed_60 rfl ?_
              refine x_get 7 hO dX5_firstMissed_61 f_X5_22 (by first | (simp only [gK_wI]; assumption) | assumption) ⟨by decide, by decide⟩ (v := .ref (m + 5)) (congrArg va_rf g9) ?_
              refine x_iconst (v := nI 0) dX5_firstMissed_64 (by decide) ?_
              refine x_row 0 hO dX5_firstMissed_65 k5 v38 rfl (by decide) ?_
              refine x_iret dX5_firstMissed_66 rfl rfl ?_
              have SF : ∀ a, (a < m + 2 ∨ a = m + 4 ∨ (m + 6 ≤ a ∧ a ≤ m + 8) ∨ m + 14 ≤ a) → f38 a = f14 a := fun a ha => (r38 a (by omega)).trans (SF a ha)
              have hval : fmS j 72 ρ = nI (runN i ρ 0) := by
                rw [hE, show 72 - i = 72 - (i + 1) + 1 by omega]
                exact if_pos ((msd_back hW2 (by rw [hn1]; exact hj)).mp ⟨p43, p54.2⟩)
              refine hq _ f38 ?_ (fun a ha => (SF a (by omega)).trans (fr14 a (by omega))) ?_ ?_
              · rw [eA]
                exact RM_scr hR1 SF
              · rw [eA]
                exact (congrFun (SF m (by omega)) 0).trans z14
              · rw [eA]
                exact (by rw [hval]; exact fun _ => congrArg nI b00)
      simp only [gI_wI] at r23
      try simp only [wI_wI, gI_wI]
      refine x_ls [(0, .ref m), (1, .int (nI j)), (2, .int (nI 0))] ⟨rfl, rfl, rfl, trivial⟩ ?_
      exact loop _ 0 f23 rfl (by decide) v23 (fun a ha => r23 a (by omega)) rfl
    · exact absurd (hr14.trans (if_neg (by decide))) c17

theorem r_leastLimit {G : GT} {C : AH} {Q : QT} {X : XT} {m T n : Nat} {S : Nat → Nat} {ρ : Rw} {L : List Rw} {K : Nat → Option Rw} {w : Int32} (hO : GO G) (hT : T ≤ 40000) (hR : RM T C m (S, n, ρ, L, K)) (hq : ∀ (r : Int32) (f : Nat → Nat → Int32), RM (T) (wI C f) m (aLeast (S, n, ρ, L, K) w).2.2 → (∀ a, (a < m ∨ m + 14 ≤ a) → f a = gI C a) → f m 0 = nI (aLeast (S, n, ρ, L, K) w).1 → ((aLeast (S, n, ρ, L, K) w).1 = 0 → r = (aLeast (S, n, ρ, L, K) w).2.1) → Q (some (.int r)) (wI C f)) : Mt G M_X5_leastLimit [.ref m, .int w] C Q X := by
  refine Mt_of (by decide) (Nat.le_of_ble_eq_true rfl) ?_
  obtain ⟨hk, hM, hv⟩ := id hR
  obtain ⟨hm0, ⟨g1, g6, g7, g8, g9, g10, g12, g13, g14, g15, g16, g17, g18⟩, k1, k2, k3, k4, k5, k6, k7, k8, k9, k10, k11, k12, k13, hmz⟩ := id hM
  obtain ⟨vn, vS, vN, vA, vH, vK⟩ : gI C m 2 = nI n ∧ (∀ i, i < n → gI C (m + 1) i = nI (S i)) ∧ Vr (gI C) (m + 4) ρ ∧ gI C m 11 = nI L.length ∧ (∀ i σ, L[i]? = some σ → Vo (gI C) (m + 6) (74 * i) σ) ∧ ∀ i, i < 2 → (K i = none → gI C (m + 8) i = 0) ∧ ∀ σ, K i = some σ → gI C (m + 8) i = 1 ∧ Vo (gI C) (m + 7) (74 * i) σ := hv
  obtain ⟨ok1, ok2, ok3, ok4, ok5, ok6⟩ : Ok T ρ ∧ (∀ σ, σ ∈ L → Ok T σ) ∧ (∀ i σ, K i = some σ → Ok T σ) ∧ n ≤ 120 ∧ (∀ i, i < n → S i < 256) ∧ L.length ≤ 14 := hk
  obtain ⟨hW, hB⟩ := id ok1
  obtain ⟨hb0, hb3, hb4, hb5, hb6, hb7⟩ := id hB
  obtain ⟨w1, w2, w7, w8, w9, w10, w11, w11', w12, wB, wP⟩ := id hW
  refine x_aload_n dX5_leastLimit_0 rfl ?_
  refine x_iload_n dX5_leastLimit_1 rfl ?_
  refine x_callS (As := [_]) hO dX5_leastLimit_2 o_X5_isFar s_X5_isFar l_X5_272 ⟨by decide, by decide⟩ ⟨by decide, by decide⟩ rfl rfl (Nat.le_of_ble_eq_true rfl) (r_isFar hO (fun r2 hr2 => ?_))
  dsimp only [Option.toList, List.cons_append, List.nil_append]
  refine x_if_eq (tgt := 12) dX5_leastLimit_5 (by decide) (fun c5 => ?_) (fun c5 => ?_)
  · have p2 := (ite01 hr2).1 c5
    refine x_iconst (v := nI 1) dX5_leastLimit_12 (by decide) ?_
    refine x_callV (As := [_]) 7 hO dX5_leastLimit_13 o_X5_refused v_X5_refused l_X5_137 ⟨by decide, by decide⟩ (by first | (simp only [gK_wI]; assumption) | assumption) ⟨by decide, by decide⟩ rfl ⟨by decide, by decide⟩ rfl rfl (Nat.le_of_ble_eq_true rfl) (t_ref hO hR (by decide) (fun r13 f13 hr13 z13 hR1 fr13 => ?_))
    dsimp only [Option.toList, List.cons_append, List.nil_append]
    refine x_if_eq (tgt := 21) dX5_leastLimit_16 (by decide) (fun c16 => ?_) (fun c16 => ?_)
    · exact absurd (c16.symm.trans (hr13.trans (if_pos (by decide)))) (by decide)
    · have p13 := (ite01 hr13).2 c16
      refine x_iconst (v := nI 0) dX5_leastLimit_19 (by decide) ?_
      refine x_iret dX5_leastLimit_20 rfl rfl ?_
      have eA : aLeast (S, n, ρ, L, K) w = (1, 0, (S, n, ρ, L, K)) := if_neg p2
      refine hq _ f13 ?_ (fun a ha => fr13 a (by omega)) ?_ ?_
      · rw [eA]
        exact hR1
      · rw [eA]
        exact z13
      · rw [eA]
        exact fun h => absurd h (Nat.succ_ne_zero _)
  · have p2 := (ite01 hr2).2 c5
    refine x_iconst (v := nI 0) dX5_leastLimit_8 (by decide) ?_
    refine x_goto (tgt := 13) dX5_leastLimit_9 (by decide) ?_
    refine x_callV (As := [_]) 7 hO dX5_leastLimit_13 o_X5_refused v_X5_refused l_X5_137 ⟨by decide, by decide⟩ (by first | (simp only [gK_wI]; assumption) | assumption) ⟨by decide, by decide⟩ rfl ⟨by decide, by decide⟩ rfl rfl (Nat.le_of_ble_eq_true rfl) (t_ref hO hR (by decide) (fun r13 f13 hr13 z13 hR1 fr13 => ?_))
    dsimp only [Option.toList, List.cons_append, List.nil_append]
    refine x_if_eq (tgt := 21) dX5_leastLimit_16 (by decide) (fun c16 => ?_) (fun c16 => ?_)
    · have p13 := (ite01 hr13).1 c16
      obtain ⟨k, y0, y9, rfl⟩ := (rng (by decide) (by decide)).mp p2
      obtain ⟨hk, hM, hv⟩ := id hR1
      obtain ⟨hm0, ⟨g1, g6, g7, g8, g9, g10, g12, g13, g14, g15, g16, g17, g18⟩, k1, k2, k3, k4, k5, k6, k7, k8, k9, k10, k11, k12, k13, hmz⟩ := id hM
      obtain ⟨vn, vS, vN, vA, vH, vK⟩ : f13 m 2 = nI n ∧ (∀ i, i < n → f13 (m + 1) i = nI (S i)) ∧ Vr (f13) (m + 4) ρ ∧ f13 m 11 = nI L.length ∧ (∀ i σ, L[i]? = some σ → Vo (f13) (m + 6) (74 * i) σ) ∧ ∀ i, i < 2 → (K i = none → f13 (m + 8) i = 0) ∧ ∀ σ, K i = some σ → f13 (m + 8) i = 1 ∧ Vo (f13) (m + 7) (74 * i) σ := hv
      obtain ⟨ok1, ok2, ok3, ok4, ok5, ok6⟩ : Ok T ρ ∧ (∀ σ, σ ∈ L → Ok T σ) ∧ (∀ i σ, K i = some σ → Ok T σ) ∧ n ≤ 120 ∧ (∀ i, i < n → S i < 256) ∧ L.length ≤ 14 := hk
      obtain ⟨hW, hB⟩ := id ok1
      obtain ⟨hb0, hb3, hb4, hb5, hb6, hb7⟩ := id hB
      obtain ⟨w1, w2, w7, w8, w9, w10, w11, w11', w12, wB, wP⟩ := id hW
      have eA : aLeast (S, n, ρ, L, K) (nI k) = (0, llS ρ k 26 0, (S, n, ρ, L, K)) := by
        unfold aLeast
        rw [if_pos p2, nI_clamp (show k < 2 ^ 31 by omega)]
      refine x_iconst (v := nI 0) dX5_leastLimit_21 (by decide) ?_
      refine x_istore_n dX5_leastLimit_22 (by decide) ?_
      have loop : ∀ (m9 i : Nat) (f : Nat → Nat → Int32), 26 - i = m9 → i ≤ 26 → (∀ a, (a < m + 2 ∨ a = m + 4 ∨ (m + 6 ≤ a ∧ a ≤ m + 8) ∨ m + 14 ≤ a) → f a = f13 a) → llS ρ k 26 0 = llS ρ k (26 - i) i → Ex G M_X5_leastLimit Q X (mC M_X5_leastLimit) (mS M_X5_leastLimit) 23 [(0, .ref m), (1, .int (nI k)), (2, .int (nI (10 * i)))] [] (wI C f) := by
        intro m9
        induction m9 using Nat.strongRecOn with
        | _ m9 ih =>
        intro i f hm9 hi SF0 hE
        have hRf : RM T (wI C f) m (S, n, ρ, L, K) := RM_scr hR1 SF0
        refine x_iload_n dX5_leastLimit_23 rfl ?_
        refine x_sipush (v := nI 250) dX5_leastLimit_24 (by decide) ?_
        refine x_icmp_gt (tgt := 75) dX5_leastLimit_27 (by decide) (fun c27 => ?_) (fun c27 => ?_)
        · simp (disch := omega) only [nI_ltI] at c27
          refine x_iconst (v := (-1)) dX5_leastLimit_75 (by decide) ?_
          refine x_iret dX5_leastLimit_76 rfl rfl ?_
          have : i = 26 := by omega
          subst this
          refine hq _ f ?_ (fun a ha => (SF0 a (by omega)).trans (fr13 a (by omega))) ?_ ?_
          · rw [eA]
            exact RM_scr hR1 SF0
          · rw [eA]
            exact (congrFun (SF0 m (by omega)) 0).trans z13
          · rw [eA]
            exact (by rw [hE]; exact fun _ => rfl)
        · simp (disch := omega) only [nI_ltI] at c27
          have oks := Ok_stS ok1 (show okSN 0 (10 * i) from ⟨by decide, Nat.zero_le _, by show 10 * i ≤ 250; omega⟩)
          refine x_aload_n dX5_leastLimit_30 rfl ?_
          refine x_callV (As := []) 7 hO dX5_leastLimit_31 o_X5_tryIt v_X5_tryIt l_X5_215 ⟨by decide, by decide⟩ (by first | (simp only [gK_wI]; assumption) | assumption) ⟨by decide, by decide⟩ rfl ⟨by decide, by decide⟩ rfl rfl (Nat.le_of_ble_eq_true rfl) (r_tryIt (C := wI C f) hO hT hRf (fun f31 v31 r31 => ?_))
          dsimp only [Option.toList, List.cons_append, List.nil_append]
          simp only [gI_wI] at r31
          try simp only [wI_wI, gI_wI]
          refine x_aload_n dX5_leastLimit_34 rfl ?_
          refine x_get 7 hO dX5_leastLimit_35 f_X5_22 (by first | (simp only [gK_wI]; assumption) | assumption) ⟨by decide, by decide⟩ (v := .ref (m + 5)) (congrArg va_rf g9) ?_
          refine x_bipush (v := nI 7) dX5_leastLimit_38 (by decide) ?_
          refine x_iload_n dX5_leastLimit_40 rfl ?_
          refine x_rowS 7 (10 * i) hO dX5_leastLimit_41 k5 v31 rfl (by decide) rfl (fun f41 v41 r41 => ?_)
          have v41 : Vr f41 (m + 5) (stS ρ 0 (10 * i)) := v41
          simp only [gI_wI] at r41
          try simp only [wI_wI, gI_wI]
          refine x_aload_n dX5_leastLimit_42 rfl ?_
          refine x_aload_n dX5_leastLimit_43 rfl ?_
          refine x_get 7 hO dX5_leastLimit_44 f_X5_22 (by first | (simp only [gK_wI]; assumption) | assumption) ⟨by decide, by decide⟩ (v := .ref (m + 5)) (congrArg va_rf g9) ?_
          refine x_iload_n dX5_leastLimit_47 rfl ?_
          refine x_callV (As := [_, _]) 7 hO dX5_leastLimit_48 o_X5_runIn v_X5_runIn l_X5_189 ⟨by decide, by decide⟩ (by first | (simp only [gK_wI]; assumption) | assumption) ⟨by decide, by decide⟩ rfl ⟨by decide, by decide⟩ rfl rfl (Nat.le_of_ble_eq_true rfl) (r_runIn hO k5 v41 oks.1 oks.2 (by omega) hM (by omega) (fun f48 v48 r48 => ?_))
          dsimp only [Option.toList, List.cons_append, List.nil_append]
          simp only [gI_wI] at r48
          try simp only [wI_wI, gI_wI]
          have SF : ∀ a, (a < m + 2 ∨ a = m + 4 ∨ (m + 6 ≤ a ∧ a ≤ m + 8) ∨ m + 14 ≤ a) → f48 a = f13 a := fun a ha => (r48 a (by omega) (by omega)).trans ((r41 a (by omega)).trans ((r31 a (by omega)).trans (SF0 a ha)))
          have g5 := (runN_ok (n := k) oks.1 oks.2).2.1.2.2.2.1
          refine x_pop dX5_leastLimit_51 rfl ?_
          refine x_aload_n dX5_leastLimit_52 rfl ?_
          refine x_get 7 hO dX5_leastLimit_53 f_X5_22 (by first | (simp only [gK_wI]; assumption) | assumption) ⟨by decide, by decide⟩ (v := .ref (m + 5)) (congrArg va_rf g9) ?_
          refine x_iconst (v := nI 5) dX5_leastLimit_56 (by decide) ?_
          refine x_row 5 hO dX5_leastLimit_57 k5 v48 rfl (by decide) ?_
          refine x_aload_n dX5_leastLimit_58 rfl ?_
          refine x_get 7 hO dX5_leastLimit_59 f_X5_19 (by first | (simp only [gK_wI]; assumption) | assumption) ⟨by decide, by decide⟩ (v := .ref (m + 4)) (congrArg va_rf g8) ?_
          refine x_iconst (v := nI 5) dX5_leastLimit_62 (by decide) ?_
          refine x_row 5 hO dX5_leastLimit_63 k4 (Vr_to vN (SF _ (by omega))) rfl (by decide) ?_
          refine x_icmp_ne (tgt := 69) dX5_leastLimit_64 (by decide) (fun c64 => ?_) (fun c64 => ?_)
          · simp (disch := omega) only [nI_eq] at c64
            refine x_iinc (v := nI 10) dX5_leastLimit_69 rfl (by decide) (by decide) ?_
            refine x_goto (tgt := 23) dX5_leastLimit_72 (by decide) ?_
            refine x_ls [(0, .ref m), (1, .int (nI k)), (2, .int (nI (10 * (i + 1))))] ⟨rfl, rfl, (by show some (Value.int (nI (10 * i) + nI 10)) = some (Value.int (nI (10 * (i + 1)))); rw [nI_add]; rfl), trivial⟩ ?_
            refine ih (m9 - 1) (by omega) (i + 1) f48 (by omega) (by omega) SF ?_
            rw [hE, show 26 - i = 26 - (i + 1) + 1 by omega]
            show (if wd ρ (10 * i) k then _ else _) = _
            rw [if_neg c64]
          · simp (disch := omega) only [nI_eq] at c64
            refine x_iload_n dX5_leastLimit_67 rfl ?_
            refine x_iret dX5_leastLimit_68 rfl rfl ?_
            have hval : llS ρ k 26 0 = nI (10 * i) := by
              rw [hE, show 26 - i = 26 - (i + 1) + 1 by omega]
              exact if_pos c64
            refine hq _ f48 ?_ (fun a ha => (SF a (by omega)).trans (fr13 a (by omega))) ?_ ?_
            · rw [eA]
              exact RM_scr hR1 SF
            · rw [eA]
              exact (congrFun (SF m (by omega)) 0).trans z13
            · rw [eA]
              exact (by rw [hval]; exact fun _ => rfl)
      refine x_ls [(0, .ref m), (1, .int (nI k)), (2, .int (nI (10 * 0)))] ⟨rfl, rfl, rfl, trivial⟩ ?_
      exact loop _ 0 f13 rfl (by decide) (fun _ _ => rfl) rfl
    · exact absurd (hr13.trans (if_neg (by decide))) c16

/-- best and least before night i *)-/
def bbN (c : Nat → Int32) : Nat → Int32 × Int32
  | 0 => (-1, 0)
  | i + 1 => (nI (bsS c i).1, (bsS c i).2)
theorem bsS_le {c : Nat → Int32} {i : Nat} : (bsS c i).1 ≤ i := by
  induction i with
  | zero => exact Nat.le_refl _
  | succ i ih =>
    unfold bsS
    split
    · exact Nat.le_refl _
    · omega
theorem bsS_y {c : Nat → Int32} {k : Nat} (h : c (k + 1) < (bsS c k).2) : bsS c (k + 1) = (k + 1, c (k + 1)) := if_pos h
theorem bsS_n {c : Nat → Int32} {k : Nat} (h : ¬ c (k + 1) < (bsS c k).2) : bsS c (k + 1) = bsS c k := if_neg h
theorem bbN_y {c : Nat → Int32} {i : Nat} (h : (bbN c i).1 = -1 ∨ c i < (bbN c i).2) (hi : i < 1000 := by omega) : bbN c (i + 1) = (nI i, c i) := by
  cases i with
  | zero => rfl
  | succ i =>
    have : (bsS c i).1 ≤ i := bsS_le
    have h2 : c (i + 1) < (bsS c i).2 := h.elim (fun q => absurd q (nI_m1 (by omega))) id
    show (nI (bsS c (i + 1)).1, (bsS c (i + 1)).2) = _
    rw [bsS_y h2]
theorem bbN_n {c : Nat → Int32} {i : Nat} (h : ¬ (bbN c i).1 = -1) (h2 : ¬ c i < (bbN c i).2) : bbN c (i + 1) = bbN c i := by
  cases i with
  | zero => exact absurd rfl h
  | succ i =>
    have h3 : ¬ c (i + 1) < (bsS c i).2 := h2
    show (nI (bsS c (i + 1)).1, (bsS c (i + 1)).2) = _
    rw [bsS_n h3]
    rfl
theorem r_bestNight {G : GT} {C : AH} {Q : QT} {X : XT} {m T n : Nat} {S : Nat → Nat} {ρ : Rw} {L : List Rw} {K : Nat → Option Rw} {w : Int32} (hO : GO G) (hT : T ≤ 40000) (hR : RM T C m (S, n, ρ, L, K)) (hq : ∀ (r : Int32) (f : Nat → Nat → Int32), RM (T) (wI C f) m (aBest (S, n, ρ, L, K) w).2.2 → (∀ a, (a < m ∨ m + 14 ≤ a) → f a = gI C a) → f m 0 = nI (aBest (S, n, ρ, L, K) w).1 → ((aBest (S, n, ρ, L, K) w).1 = 0 → r = (aBest (S, n, ρ, L, K) w).2.1) → Q (some (.int r)) (wI C f)) : Mt G M_X5_bestNight [.ref m, .int w] C Q X := by
  refine Mt_of (by decide) (Nat.le_of_ble_eq_true rfl) ?_
  obtain ⟨hk, hM, hv⟩ := id hR
  obtain ⟨hm0, ⟨g1, g6, g7, g8, g9, g10, g12, g13, g14, g15, g16, g17, g18⟩, k1, k2, k3, k4, k5, k6, k7, k8, k9, k10, k11, k12, k13, hmz⟩ := id hM
  obtain ⟨vn, vS, vN, vA, vH, vK⟩ : gI C m 2 = nI n ∧ (∀ i, i < n → gI C (m + 1) i = nI (S i)) ∧ Vr (gI C) (m + 4) ρ ∧ gI C m 11 = nI L.length ∧ (∀ i σ, L[i]? = some σ → Vo (gI C) (m + 6) (74 * i) σ) ∧ ∀ i, i < 2 → (K i = none → gI C (m + 8) i = 0) ∧ ∀ σ, K i = some σ → gI C (m + 8) i = 1 ∧ Vo (gI C) (m + 7) (74 * i) σ := hv
  obtain ⟨ok1, ok2, ok3, ok4, ok5, ok6⟩ : Ok T ρ ∧ (∀ σ, σ ∈ L → Ok T σ) ∧ (∀ i σ, K i = some σ → Ok T σ) ∧ n ≤ 120 ∧ (∀ i, i < n → S i < 256) ∧ L.length ≤ 14 := hk
  obtain ⟨hW, hB⟩ := id ok1
  obtain ⟨hb0, hb3, hb4, hb5, hb6, hb7⟩ := id hB
  obtain ⟨w1, w2, w7, w8, w9, w10, w11, w11', w12, wB, wP⟩ := id hW
  refine x_aload_n dX5_bestNight_0 rfl ?_
  refine x_iload_n dX5_bestNight_1 rfl ?_
  refine x_callS (As := [_]) hO dX5_bestNight_2 o_X5_isFar s_X5_isFar l_X5_272 ⟨by decide, by decide⟩ ⟨by decide, by decide⟩ rfl rfl (Nat.le_of_ble_eq_true rfl) (r_isFar hO (fun r2 hr2 => ?_))
  dsimp only [Option.toList, List.cons_append, List.nil_append]
  refine x_if_eq (tgt := 12) dX5_bestNight_5 (by decide) (fun c5 => ?_) (fun c5 => ?_)
  · have p2 := (ite01 hr2).1 c5
    refine x_iconst (v := nI 1) dX5_bestNight_12 (by decide) ?_
    refine x_callV (As := [_]) 7 hO dX5_bestNight_13 o_X5_refused v_X5_refused l_X5_137 ⟨by decide, by decide⟩ (by first | (simp only [gK_wI]; assumption) | assumption) ⟨by decide, by decide⟩ rfl ⟨by decide, by decide⟩ rfl rfl (Nat.le_of_ble_eq_true rfl) (t_ref hO hR (by decide) (fun r13 f13 hr13 z13 hR1 fr13 => ?_))
    dsimp only [Option.toList, List.cons_append, List.nil_append]
    refine x_if_eq (tgt := 21) dX5_bestNight_16 (by decide) (fun c16 => ?_) (fun c16 => ?_)
    · exact absurd (c16.symm.trans (hr13.trans (if_pos (by decide)))) (by decide)
    · have p13 := (ite01 hr13).2 c16
      refine x_iconst (v := nI 0) dX5_bestNight_19 (by decide) ?_
      refine x_iret dX5_bestNight_20 rfl rfl ?_
      have eA : aBest (S, n, ρ, L, K) w = (1, 0, (S, n, ρ, L, K)) := if_neg p2
      refine hq _ f13 ?_ (fun a ha => fr13 a (by omega)) ?_ ?_
      · rw [eA]
        exact hR1
      · rw [eA]
        exact z13
      · rw [eA]
        exact fun h => absurd h (Nat.succ_ne_zero _)
  · have p2 := (ite01 hr2).2 c5
    refine x_iconst (v := nI 0) dX5_bestNight_8 (by decide) ?_
    refine x_goto (tgt := 13) dX5_bestNight_9 (by decide) ?_
    refine x_callV (As := [_]) 7 hO dX5_bestNight_13 o_X5_refused v_X5_refused l_X5_137 ⟨by decide, by decide⟩ (by first | (simp only [gK_wI]; assumption) | assumption) ⟨by decide, by decide⟩ rfl ⟨by decide, by decide⟩ rfl rfl (Nat.le_of_ble_eq_true rfl) (t_ref hO hR (by decide) (fun r13 f13 hr13 z13 hR1 fr13 => ?_))
    dsimp only [Option.toList, List.cons_append, List.nil_append]
    refine x_if_eq (tgt := 21) dX5_bestNight_16 (by decide) (fun c16 => ?_) (fun c16 => ?_)
    · have p13 := (ite01 hr13).1 c16
      obtain ⟨k, y0, y9, rfl⟩ := (rng (by decide) (by decide)).mp p2
      obtain ⟨hk, hM, hv⟩ := id hR1
      obtain ⟨hm0, ⟨g1, g6, g7, g8, g9, g10, g12, g13, g14, g15, g16, g17, g18⟩, k1, k2, k3, k4, k5, k6, k7, k8, k9, k10, k11, k12, k13, hmz⟩ := id hM
      obtain ⟨vn, vS, vN, vA, vH, vK⟩ : f13 m 2 = nI n ∧ (∀ i, i < n → f13 (m + 1) i = nI (S i)) ∧ Vr (f13) (m + 4) ρ ∧ f13 m 11 = nI L.length ∧ (∀ i σ, L[i]? = some σ → Vo (f13) (m + 6) (74 * i) σ) ∧ ∀ i, i < 2 → (K i = none → f13 (m + 8) i = 0) ∧ ∀ σ, K i = some σ → f13 (m + 8) i = 1 ∧ Vo (f13) (m + 7) (74 * i) σ := hv
      obtain ⟨ok1, ok2, ok3, ok4, ok5, ok6⟩ : Ok T ρ ∧ (∀ σ, σ ∈ L → Ok T σ) ∧ (∀ i σ, K i = some σ → Ok T σ) ∧ n ≤ 120 ∧ (∀ i, i < n → S i < 256) ∧ L.length ≤ 14 := hk
      obtain ⟨hW, hB⟩ := id ok1
      obtain ⟨hb0, hb3, hb4, hb5, hb6, hb7⟩ := id hB
      obtain ⟨w1, w2, w7, w8, w9, w10, w11, w11', w12, wB, wP⟩ := id hW
      have eA : aBest (S, n, ρ, L, K) (nI k) = (0, nI (bsS (cst ρ k) 23).1, (S, n, ρ, L, K)) := by
        unfold aBest
        rw [if_pos p2, nI_clamp (show k < 2 ^ 31 by omega)]
      refine x_iconst (v := (-1)) dX5_bestNight_21 (by decide) ?_
      refine x_istore_n dX5_bestNight_22 (by decide) ?_
      refine x_iconst (v := nI 0) dX5_bestNight_23 (by decide) ?_
      refine x_istore_n dX5_bestNight_24 (by decide) ?_
      refine x_iconst (v := nI 0) dX5_bestNight_25 (by decide) ?_
      refine x_istore dX5_bestNight_26 (by decide) ?_
      have loop : ∀ (m9 i : Nat) (f : Nat → Nat → Int32), 24 - i = m9 → i ≤ 24 → (∀ a, (a < m + 2 ∨ a = m + 4 ∨ (m + 6 ≤ a ∧ a ≤ m + 8) ∨ m + 14 ≤ a) → f a = f13 a) → Ex G M_X5_bestNight Q X (mC M_X5_bestNight) (mS M_X5_bestNight) 28 [(0, .ref m), (1, .int (nI k)), (2, .int (bbN (cst ρ k) i).1), (3, .int (bbN (cst ρ k) i).2), (4, .int (nI i))] [] (wI C f) := by
        intro m9
        induction m9 using Nat.strongRecOn with
        | _ m9 ih =>
        intro i f hm9 hi SF0
        have hRf : RM T (wI C f) m (S, n, ρ, L, K) := RM_scr hR1 SF0
        refine x_iload dX5_bestNight_28 rfl ?_
        refine x_bipush (v := nI 24) dX5_bestNight_30 (by decide) ?_
        refine x_icmp_ge (tgt := 121) dX5_bestNight_32 (by decide) (fun c32 => ?_) (fun c32 => ?_)
        · simp (disch := omega) only [nI_leI] at c32
          refine x_iload_n dX5_bestNight_121 rfl ?_
          refine x_iret dX5_bestNight_122 rfl rfl ?_
          have : i = 24 := by omega
          subst this
          refine hq _ f ?_ (fun a ha => (SF0 a (by omega)).trans (fr13 a (by omega))) ?_ ?_
          · rw [eA]
            exact RM_scr hR1 SF0
          · rw [eA]
            exact (congrFun (SF0 m (by omega)) 0).trans z13
          · rw [eA]
            exact fun _ => rfl
        · simp (disch := omega) only [nI_leI] at c32
          have oks := Ok_stS ok1 (show okSN 5 i from ⟨by decide, Nat.zero_le _, by show i ≤ 23; omega⟩)
          refine x_aload_n dX5_bestNight_35 rfl ?_
          refine x_callV (As := []) 7 hO dX5_bestNight_36 o_X5_tryIt v_X5_tryIt l_X5_215 ⟨by decide, by decide⟩ (by first | (simp only [gK_wI]; assumption) | assumption) ⟨by decide, by decide⟩ rfl ⟨by decide, by decide⟩ rfl rfl (Nat.le_of_ble_eq_true rfl) (r_tryIt (C := wI C f) hO hT hRf (fun f36 v36 r36 => ?_))
          dsimp only [Option.toList, List.cons_append, List.nil_append]
          simp only [gI_wI] at r36
          try simp only [wI_wI, gI_wI]
          refine x_aload_n dX5_bestNight_39 rfl ?_
          refine x_get 7 hO dX5_bestNight_40 f_X5_22 (by first | (simp only [gK_wI]; assumption) | assumption) ⟨by decide, by decide⟩ (v := .ref (m + 5)) (congrArg va_rf g9) ?_
          refine x_bipush (v := nI 12) dX5_bestNight_43 (by decide) ?_
          refine x_iload dX5_bestNight_45 rfl ?_
          refine x_rowS 12 i hO dX5_bestNight_47 k5 v36 rfl (by decide) rfl (fun f47 v47 r47 => ?_)
          have v47 : Vr f47 (m + 5) (stS ρ 5 i) := v47
          simp only [gI_wI] at r47
          try simp only [wI_wI, gI_wI]
          refine x_aload_n dX5_bestNight_48 rfl ?_
          refine x_aload_n dX5_bestNight_49 rfl ?_
          refine x_get 7 hO dX5_bestNight_50 f_X5_22 (by first | (simp only [gK_wI]; assumption) | assumption) ⟨by decide, by decide⟩ (v := .ref (m + 5)) (congrArg va_rf g9) ?_
          refine x_iload_n dX5_bestNight_53 rfl ?_
          refine x_callV (As := [_, _]) 7 hO dX5_bestNight_54 o_X5_runIn v_X5_runIn l_X5_189 ⟨by decide, by decide⟩ (by first | (simp only [gK_wI]; assumption) | assumption) ⟨by decide, by decide⟩ rfl ⟨by decide, by decide⟩ rfl rfl (Nat.le_of_ble_eq_true rfl) (r_runIn hO k5 v47 oks.1 oks.2 (by omega) hM (by omega) (fun f54 v54 r54 => ?_))
          dsimp only [Option.toList, List.cons_append, List.nil_append]
          simp only [gI_wI] at r54
          try simp only [wI_wI, gI_wI]
          have SF : ∀ a, (a < m + 2 ∨ a = m + 4 ∨ (m + 6 ≤ a ∧ a ≤ m + 8) ∨ m + 14 ≤ a) → f54 a = f13 a := fun a ha => (r54 a (by omega) (by omega)).trans ((r47 a (by omega)).trans ((r36 a (by omega)).trans (SF0 a ha)))
          refine x_pop dX5_bestNight_57 rfl ?_
          refine x_aload_n dX5_bestNight_58 rfl ?_
          refine x_get 7 hO dX5_bestNight_59 f_X5_22 (by first | (simp only [gK_wI]; assumption) | assumption) ⟨by decide, by decide⟩ (v := .ref (m + 5)) (congrArg va_rf g9) ?_
          refine x_iconst (v := nI 3) dX5_bestNight_62 (by decide) ?_
          refine x_row 3 hO dX5_bestNight_63 k5 v54 rfl (by decide) ?_
          refine x_aload_n dX5_bestNight_64 rfl ?_
          refine x_get 7 hO dX5_bestNight_65 f_X5_19 (by first | (simp only [gK_wI]; assumption) | assumption) ⟨by decide, by decide⟩ (v := .ref (m + 4)) (congrArg va_rf g8) ?_
          refine x_iconst (v := nI 3) dX5_bestNight_68 (by decide) ?_
          refine x_row 3 hO dX5_bestNight_69 k4 (Vr_to vN (SF _ (by omega))) rfl (by decide) ?_
          refine x_isub dX5_bestNight_70 ?_
          rw [show nI (runN k (stS ρ 5 i) 3) - nI (ρ 3) = cst ρ k i from rfl]
          refine x_istore dX5_bestNight_71 (by decide) ?_
          refine x_iload_n dX5_bestNight_73 rfl ?_
          refine x_iconst (v := (-1)) dX5_bestNight_74 (by decide) ?_
          refine x_icmp_eq (tgt := 84) dX5_bestNight_75 (by decide) (fun c75 => ?_) (fun c75 => ?_)
          · have hyb : bbN (cst ρ k) (i + 1) = (nI i, cst ρ k i) := bbN_y (by first | exact Or.inl c75 | exact Or.inr (Int32.not_le.mp c81))
            refine x_iconst (v := nI 1) dX5_bestNight_84 (by decide) ?_
            refine x_goto (tgt := 89) dX5_bestNight_85 (by decide) ?_
            refine x_istore dX5_bestNight_89 (by decide) ?_
            refine x_iload dX5_bestNight_91 rfl ?_
            refine x_if_eq (tgt := 101) dX5_bestNight_93 (by decide) (fun c93 => ?_) (fun c93 => ?_)
            · exact absurd c93 (by decide)
            · refine x_iload dX5_bestNight_96 rfl ?_
              refine x_goto (tgt := 102) dX5_bestNight_98 (by decide) ?_
              refine x_istore_n dX5_bestNight_102 (by decide) ?_
              refine x_iload dX5_bestNight_103 rfl ?_
              refine x_if_eq (tgt := 113) dX5_bestNight_105 (by decide) (fun c105 => ?_) (fun c105 => ?_)
              · exact absurd c105 (by decide)
              · refine x_iload dX5_bestNight_108 rfl ?_
                refine x_goto (tgt := 114) dX5_bestNight_110 (by decide) ?_
                refine x_istore_n dX5_bestNight_114 (by decide) ?_
                refine x_iinc (v := nI 1) dX5_bestNight_115 rfl (by decide) (by decide) ?_
                refine x_goto (tgt := 28) dX5_bestNight_118 (by decide) ?_
                refine x_ls [(0, .ref m), (1, .int (nI k)), (2, .int (bbN (cst ρ k) (i + 1)).1), (3, .int (bbN (cst ρ k) (i + 1)).2), (4, .int (nI (i + 1)))] ⟨rfl, rfl, (by rw [hyb]; rfl), (by rw [hyb]; rfl), (by rw [← nI_add]; rfl), trivial⟩ ?_
                exact ih (m9 - 1) (by omega) (i + 1) f54 (by omega) (by omega) SF
          · refine x_iload dX5_bestNight_78 rfl ?_
            refine x_iload_n dX5_bestNight_80 rfl ?_
            refine x_icmp_ge (tgt := 88) dX5_bestNight_81 (by decide) (fun c81 => ?_) (fun c81 => ?_)
            · have hnb : bbN (cst ρ k) (i + 1) = bbN (cst ρ k) i := bbN_n c75 (Int32.not_lt.mpr c81)
              refine x_iconst (v := nI 0) dX5_bestNight_88 (by decide) ?_
              refine x_istore dX5_bestNight_89 (by decide) ?_
              refine x_iload dX5_bestNight_91 rfl ?_
              refine x_if_eq (tgt := 101) dX5_bestNight_93 (by decide) (fun c93 => ?_) (fun c93 => ?_)
              · refine x_iload_n dX5_bestNight_101 rfl ?_
                refine x_istore_n dX5_bestNight_102 (by decide) ?_
                refine x_iload dX5_bestNight_103 rfl ?_
                refine x_if_eq (tgt := 113) dX5_bestNight_105 (by decide) (fun c105 => ?_) (fun c105 => ?_)
                · refine x_iload_n dX5_bestNight_113 rfl ?_
                  refine x_istore_n dX5_bestNight_114 (by decide) ?_
                  refine x_iinc (v := nI 1) dX5_bestNight_115 rfl (by decide) (by decide) ?_
                  refine x_goto (tgt := 28) dX5_bestNight_118 (by decide) ?_
                  refine x_ls [(0, .ref m), (1, .int (nI k)), (2, .int (bbN (cst ρ k) (i + 1)).1), (3, .int (bbN (cst ρ k) (i + 1)).2), (4, .int (nI (i + 1)))] ⟨rfl, rfl, (by rw [hnb]; rfl), (by rw [hnb]; rfl), (by rw [← nI_add]; rfl), trivial⟩ ?_
                  exact ih (m9 - 1) (by omega) (i + 1) f54 (by omega) (by omega) SF
                · exact absurd rfl c105
              · exact absurd rfl c93
            · have hyb : bbN (cst ρ k) (i + 1) = (nI i, cst ρ k i) := bbN_y (by first | exact Or.inl c75 | exact Or.inr (Int32.not_le.mp c81))
              refine x_iconst (v := nI 1) dX5_bestNight_84 (by decide) ?_
              refine x_goto (tgt := 89) dX5_bestNight_85 (by decide) ?_
              refine x_istore dX5_bestNight_89 (by decide) ?_
              refine x_iload dX5_bestNight_91 rfl ?_
              refine x_if_eq (tgt := 101) dX5_bestNight_93 (by decide) (fun c93 => ?_) (fun c93 => ?_)
              · exact absurd c93 (by decide)
              · refine x_iload dX5_bestNight_96 rfl ?_
                refine x_goto (tgt := 102) dX5_bestNight_98 (by decide) ?_
                refine x_istore_n dX5_bestNight_102 (by decide) ?_
                refine x_iload dX5_bestNight_103 rfl ?_
                refine x_if_eq (tgt := 113) dX5_bestNight_105 (by decide) (fun c105 => ?_) (fun c105 => ?_)
                · exact absurd c105 (by decide)
                · refine x_iload dX5_bestNight_108 rfl ?_
                  refine x_goto (tgt := 114) dX5_bestNight_110 (by decide) ?_
                  refine x_istore_n dX5_bestNight_114 (by decide) ?_
                  refine x_iinc (v := nI 1) dX5_bestNight_115 rfl (by decide) (by decide) ?_
                  refine x_goto (tgt := 28) dX5_bestNight_118 (by decide) ?_
                  refine x_ls [(0, .ref m), (1, .int (nI k)), (2, .int (bbN (cst ρ k) (i + 1)).1), (3, .int (bbN (cst ρ k) (i + 1)).2), (4, .int (nI (i + 1)))] ⟨rfl, rfl, (by rw [hyb]; rfl), (by rw [hyb]; rfl), (by rw [← nI_add]; rfl), trivial⟩ ?_
                  exact ih (m9 - 1) (by omega) (i + 1) f54 (by omega) (by omega) SF
      refine x_ls [(0, .ref m), (1, .int (nI k)), (2, .int (bbN (cst ρ k) 0).1), (3, .int (bbN (cst ρ k) 0).2), (4, .int (nI 0))] ⟨rfl, rfl, rfl, rfl, rfl, trivial⟩ ?_
      exact loop _ 0 f13 rfl (by decide) (fun _ _ => rfl)
    · exact absurd (hr13.trans (if_neg (by decide))) c16

