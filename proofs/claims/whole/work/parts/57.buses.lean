/-! the reference: buses *)-/
theorem r_addBus {G : GT} {C : AH} {Q : QT} {X : XT} {m T n : Nat} {S : Nat → Nat} {ρ : Rw} {L : List Rw} {K : Nat → Option Rw} {a b c d e : Int32} (hO : GO G) (hT : T ≤ 40000) (hR : RM T C m (S, n, ρ, L, K)) (hq : ∀ (r : Int32) (f : Nat → Nat → Int32), RM (T) (wI C f) m (aAddBus (S, n, ρ, L, K) a b c d e).2.2 → (∀ a, (a < m ∨ m + 14 ≤ a) → f a = gI C a) → f m 0 = nI (aAddBus (S, n, ρ, L, K) a b c d e).1 → ((aAddBus (S, n, ρ, L, K) a b c d e).1 = 0 → r = (aAddBus (S, n, ρ, L, K) a b c d e).2.1) → Q (some (.int r)) (wI C f)) : Mt G M_X5_addBus [.ref m, .int a, .int b, .int c, .int d, .int e] C Q X := by
  refine Mt_of (by decide) (Nat.le_of_ble_eq_true rfl) ?_
  obtain ⟨hk, hM, hv⟩ := id hR
  obtain ⟨hm0, ⟨g1, g6, g7, g8, g9, g10, g12, g13, g14, g15, g16, g17, g18⟩, k1, k2, k3, k4, k5, k6, k7, k8, k9, k10, k11, k12, k13, hmz⟩ := id hM
  obtain ⟨vn, vS, vN, vA, vH, vK⟩ : gI C m 2 = nI n ∧ (∀ i, i < n → gI C (m + 1) i = nI (S i)) ∧ Vr (gI C) (m + 4) ρ ∧ gI C m 11 = nI L.length ∧ (∀ i σ, L[i]? = some σ → Vo (gI C) (m + 6) (74 * i) σ) ∧ ∀ i, i < 2 → (K i = none → gI C (m + 8) i = 0) ∧ ∀ σ, K i = some σ → gI C (m + 8) i = 1 ∧ Vo (gI C) (m + 7) (74 * i) σ := hv
  obtain ⟨ok1, ok2, ok3, ok4, ok5, ok6⟩ : Ok T ρ ∧ (∀ σ, σ ∈ L → Ok T σ) ∧ (∀ i σ, K i = some σ → Ok T σ) ∧ n ≤ 120 ∧ (∀ i, i < n → S i < 256) ∧ L.length ≤ 14 := hk
  obtain ⟨hW, hB⟩ := id ok1
  obtain ⟨hb0, hb3, hb4, hb5, hb6, hb7⟩ := id hB
  obtain ⟨w1, w2, w7, w8, w9, w10, w11, w11', w12, wB, wP⟩ := id hW
  refine x_iload_n dX5_addBus_0 rfl ?_
  refine x_callS (As := [_]) hO dX5_addBus_1 o_X5_isBattery s_X5_isBattery l_X5_245 ⟨by decide, by decide⟩ ⟨by decide, by decide⟩ rfl rfl (Nat.le_of_ble_eq_true rfl) (r_isBattery hO (fun r1 hr1 => ?_))
  dsimp only [Option.toList, List.cons_append, List.nil_append]
  refine x_if_eq (tgt := 33) dX5_addBus_4 (by decide) (fun c4 => ?_) (fun c4 => ?_)
  · have p1 := (ite01 hr1).1 c4
    have hnB : ¬ okB a b c d e := fun q => p1 ⟨q.1, q.2.1⟩
    refine x_iconst (v := nI 0) dX5_addBus_33 (by decide) ?_
    refine x_istore dX5_addBus_34 (by decide) ?_
    refine x_aload_n dX5_addBus_36 rfl ?_
    refine x_iload dX5_addBus_37 rfl ?_
    refine x_if_ne (tgt := 46) dX5_addBus_39 (by decide) (fun c39 => ?_) (fun c39 => ?_)
    · exact absurd rfl c39
    · refine x_iconst (v := nI 1) dX5_addBus_42 (by decide) ?_
      refine x_goto (tgt := 62) dX5_addBus_43 (by decide) ?_
      refine x_callV (As := [_]) 7 hO dX5_addBus_62 o_X5_refused v_X5_refused l_X5_137 ⟨by decide, by decide⟩ (by first | (simp only [gK_wI]; assumption) | assumption) ⟨by decide, by decide⟩ rfl ⟨by decide, by decide⟩ rfl rfl (Nat.le_of_ble_eq_true rfl) (t_ref hO hR (by decide) (fun r62 f62 hr62 z62 hR1 fr62 => ?_))
      dsimp only [Option.toList, List.cons_append, List.nil_append]
      refine x_if_eq (tgt := 70) dX5_addBus_65 (by decide) (fun c65 => ?_) (fun c65 => ?_)
      · exact absurd (c65.symm.trans (hr62.trans (if_pos (by decide)))) (by decide)
      · have p62 := (ite01 hr62).2 c65
        refine x_iconst (v := nI 0) dX5_addBus_68 (by decide) ?_
        refine x_iret dX5_addBus_69 rfl rfl ?_
        have eA : aAddBus (S, n, ρ, L, K) a b c d e = (1, 0, (S, n, ρ, L, K)) := if_neg hnB
        refine hq _ f62 ?_ (fun a ha => fr62 a (by omega)) ?_ ?_
        · rw [eA]
          exact hR1
        · rw [eA]
          exact z62
        · rw [eA]
          exact fun h => absurd h (Nat.succ_ne_zero _)
  · have p1 := (ite01 hr1).2 c4
    refine x_iload_n dX5_addBus_7 rfl ?_
    refine x_i2l dX5_addBus_8 ?_
    refine x_lconst (v := 0) dX5_addBus_9 (by decide) ?_
    refine x_iload_n dX5_addBus_10 rfl ?_
    refine x_i2l dX5_addBus_11 ?_
    refine x_callS (As := [_, _, _]) hO dX5_addBus_12 o_X5_in s_X5_in l_X5_118 ⟨by decide, by decide⟩ ⟨by decide, by decide⟩ rfl rfl (Nat.le_of_ble_eq_true rfl) (r_inI (a := nI 0) (b := a) hO (by decide) rfl (fun r12 hr12 => ?_))
    dsimp only [Option.toList, List.cons_append, List.nil_append]
    refine x_if_eq (tgt := 33) dX5_addBus_15 (by decide) (fun c15 => ?_) (fun c15 => ?_)
    · have p12 := (ite01 hr12).1 c15
      have hnB : ¬ okB a b c d e := fun q => p12 ⟨q.2.2.1, q.2.2.2.1⟩
      refine x_iconst (v := nI 0) dX5_addBus_33 (by decide) ?_
      refine x_istore dX5_addBus_34 (by decide) ?_
      refine x_aload_n dX5_addBus_36 rfl ?_
      refine x_iload dX5_addBus_37 rfl ?_
      refine x_if_ne (tgt := 46) dX5_addBus_39 (by decide) (fun c39 => ?_) (fun c39 => ?_)
      · exact absurd rfl c39
      · refine x_iconst (v := nI 1) dX5_addBus_42 (by decide) ?_
        refine x_goto (tgt := 62) dX5_addBus_43 (by decide) ?_
        refine x_callV (As := [_]) 7 hO dX5_addBus_62 o_X5_refused v_X5_refused l_X5_137 ⟨by decide, by decide⟩ (by first | (simp only [gK_wI]; assumption) | assumption) ⟨by decide, by decide⟩ rfl ⟨by decide, by decide⟩ rfl rfl (Nat.le_of_ble_eq_true rfl) (t_ref hO hR (by decide) (fun r62 f62 hr62 z62 hR1 fr62 => ?_))
        dsimp only [Option.toList, List.cons_append, List.nil_append]
        refine x_if_eq (tgt := 70) dX5_addBus_65 (by decide) (fun c65 => ?_) (fun c65 => ?_)
        · exact absurd (c65.symm.trans (hr62.trans (if_pos (by decide)))) (by decide)
        · have p62 := (ite01 hr62).2 c65
          refine x_iconst (v := nI 0) dX5_addBus_68 (by decide) ?_
          refine x_iret dX5_addBus_69 rfl rfl ?_
          have eA : aAddBus (S, n, ρ, L, K) a b c d e = (1, 0, (S, n, ρ, L, K)) := if_neg hnB
          refine hq _ f62 ?_ (fun a ha => fr62 a (by omega)) ?_ ?_
          · rw [eA]
            exact hR1
          · rw [eA]
            exact z62
          · rw [eA]
            exact fun h => absurd h (Nat.succ_ne_zero _)
    · have p12 := (ite01 hr12).2 c15
      refine x_iload_n dX5_addBus_18 rfl ?_
      refine x_iload dX5_addBus_19 rfl ?_
      refine x_iload dX5_addBus_21 rfl ?_
      refine x_callS (As := [_, _, _]) hO dX5_addBus_23 o_X5_isRoute s_X5_isRoute l_X5_248 ⟨by decide, by decide⟩ ⟨by decide, by decide⟩ rfl rfl (Nat.le_of_ble_eq_true rfl) (r_isRoute hO (fun r23 hr23 => ?_))
      dsimp only [Option.toList, List.cons_append, List.nil_append]
      refine x_if_eq (tgt := 33) dX5_addBus_26 (by decide) (fun c26 => ?_) (fun c26 => ?_)
      · have p23 := (ite01 hr23).1 c26
        have hnB : ¬ okB a b c d e := fun q => p23 q.2.2.2.2
        refine x_iconst (v := nI 0) dX5_addBus_33 (by decide) ?_
        refine x_istore dX5_addBus_34 (by decide) ?_
        refine x_aload_n dX5_addBus_36 rfl ?_
        refine x_iload dX5_addBus_37 rfl ?_
        refine x_if_ne (tgt := 46) dX5_addBus_39 (by decide) (fun c39 => ?_) (fun c39 => ?_)
        · exact absurd rfl c39
        · refine x_iconst (v := nI 1) dX5_addBus_42 (by decide) ?_
          refine x_goto (tgt := 62) dX5_addBus_43 (by decide) ?_
          refine x_callV (As := [_]) 7 hO dX5_addBus_62 o_X5_refused v_X5_refused l_X5_137 ⟨by decide, by decide⟩ (by first | (simp only [gK_wI]; assumption) | assumption) ⟨by decide, by decide⟩ rfl ⟨by decide, by decide⟩ rfl rfl (Nat.le_of_ble_eq_true rfl) (t_ref hO hR (by decide) (fun r62 f62 hr62 z62 hR1 fr62 => ?_))
          dsimp only [Option.toList, List.cons_append, List.nil_append]
          refine x_if_eq (tgt := 70) dX5_addBus_65 (by decide) (fun c65 => ?_) (fun c65 => ?_)
          · exact absurd (c65.symm.trans (hr62.trans (if_pos (by decide)))) (by decide)
          · have p62 := (ite01 hr62).2 c65
            refine x_iconst (v := nI 0) dX5_addBus_68 (by decide) ?_
            refine x_iret dX5_addBus_69 rfl rfl ?_
            have eA : aAddBus (S, n, ρ, L, K) a b c d e = (1, 0, (S, n, ρ, L, K)) := if_neg hnB
            refine hq _ f62 ?_ (fun a ha => fr62 a (by omega)) ?_ ?_
            · rw [eA]
              exact hR1
            · rw [eA]
              exact z62
            · rw [eA]
              exact fun h => absurd h (Nat.succ_ne_zero _)
      · have p23 := (ite01 hr23).2 c26
        have hokB : okB a b c d e := ⟨p1.1, p1.2, p12.1, p12.2, p23⟩
        refine x_iconst (v := nI 1) dX5_addBus_29 (by decide) ?_
        refine x_goto (tgt := 34) dX5_addBus_30 (by decide) ?_
        refine x_istore dX5_addBus_34 (by decide) ?_
        refine x_aload_n dX5_addBus_36 rfl ?_
        refine x_iload dX5_addBus_37 rfl ?_
        refine x_if_ne (tgt := 46) dX5_addBus_39 (by decide) (fun c39 => ?_) (fun c39 => ?_)
        · refine x_aload_n dX5_addBus_46 rfl ?_
          refine x_get 7 hO dX5_addBus_47 f_X5_19 (by first | (simp only [gK_wI]; assumption) | assumption) ⟨by decide, by decide⟩ (v := .ref (m + 4)) (congrArg va_rf g8) ?_
          refine x_iconst (v := nI 1) dX5_addBus_50 (by decide) ?_
          refine x_row _ hO dX5_addBus_51 k4 vN rfl (by omega) ?_
          refine x_bipush (v := nI 8) dX5_addBus_52 (by decide) ?_
          refine x_icmp_ne (tgt := 61) dX5_addBus_54 (by decide) (fun c54 => ?_) (fun c54 => ?_)
          · refine x_iconst (v := nI 0) dX5_addBus_61 (by decide) ?_
            refine x_callV (As := [_]) 7 hO dX5_addBus_62 o_X5_refused v_X5_refused l_X5_137 ⟨by decide, by decide⟩ (by first | (simp only [gK_wI]; assumption) | assumption) ⟨by decide, by decide⟩ rfl ⟨by decide, by decide⟩ rfl rfl (Nat.le_of_ble_eq_true rfl) (t_ref hO hR (by decide) (fun r62 f62 hr62 z62 hR1 fr62 => ?_))
            dsimp only [Option.toList, List.cons_append, List.nil_append]
            refine x_if_eq (tgt := 70) dX5_addBus_65 (by decide) (fun c65 => ?_) (fun c65 => ?_)
            · have p62 := (ite01 hr62).1 c65
              obtain ⟨q1, q2, q3, q4, q5, rfl, rfl, rfl, rfl, rfl, hok⟩ := okB_N.mp hokB
              obtain ⟨o1, o2, o3, o4, o5, o6, o7, o8⟩ := id hok
              obtain ⟨hk, hM, hv⟩ := id hR1
              obtain ⟨hm0, ⟨g1, g6, g7, g8, g9, g10, g12, g13, g14, g15, g16, g17, g18⟩, k1, k2, k3, k4, k5, k6, k7, k8, k9, k10, k11, k12, k13, hmz⟩ := id hM
              obtain ⟨vn, vS, vN, vA, vH, vK⟩ : f62 m 2 = nI n ∧ (∀ i, i < n → f62 (m + 1) i = nI (S i)) ∧ Vr (f62) (m + 4) ρ ∧ f62 m 11 = nI L.length ∧ (∀ i σ, L[i]? = some σ → Vo (f62) (m + 6) (74 * i) σ) ∧ ∀ i, i < 2 → (K i = none → f62 (m + 8) i = 0) ∧ ∀ σ, K i = some σ → f62 (m + 8) i = 1 ∧ Vo (f62) (m + 7) (74 * i) σ := hv
              obtain ⟨ok1, ok2, ok3, ok4, ok5, ok6⟩ : Ok T ρ ∧ (∀ σ, σ ∈ L → Ok T σ) ∧ (∀ i σ, K i = some σ → Ok T σ) ∧ n ≤ 120 ∧ (∀ i, i < n → S i < 256) ∧ L.length ≤ 14 := hk
              obtain ⟨hW, hB⟩ := id ok1
              obtain ⟨hb0, hb3, hb4, hb5, hb6, hb7⟩ := id hB
              obtain ⟨w1, w2, w7, w8, w9, w10, w11, w11', w12, wB, wP⟩ := id hW
              have h89 : ρ 1 ≠ 8 := fun e => c54 (by rw [e])
              have eA : aAddBus (S, n, ρ, L, K) (nI q1) (nI q2) (nI q3) (nI q4) (nI q5) = (0, nI (ρ 1), (S, n, addB ρ q1 q2 q3 q4 q5, rem14 L ρ, K)) := by
                unfold aAddBus
                rw [if_pos hokB, nI_clamp (by omega), nI_clamp (by omega), nI_clamp (by omega), nI_clamp (by omega), nI_clamp (by omega)]
                exact if_neg h89
              refine x_aload_n dX5_addBus_70 rfl ?_
              refine x_callV (As := []) 7 hO dX5_addBus_71 o_X5_remember v_X5_remember l_X5_251 ⟨by decide, by decide⟩ (by first | (simp only [gK_wI]; assumption) | assumption) ⟨by decide, by decide⟩ rfl ⟨by decide, by decide⟩ rfl rfl (Nat.le_of_ble_eq_true rfl) (t_rem hO hT hR1 (fun g hR2 z2 r2 => ?_))
              dsimp only [Option.toList, List.cons_append, List.nil_append]
              have hR2 : RM T (wI C g) m (S, n, ρ, rem14 L ρ, K) := hR2
              have z2 : g m 0 = nI 0 := z2.trans z62
              have r2 : ∀ a, a ≠ m → a ≠ m + 6 → g a = gI C a := fun a h1 h2 => (r2 a h1 h2).trans (fr62 a h1)
              obtain ⟨hk, hM, hv⟩ := id hR2
              obtain ⟨hm0, ⟨g1, g6, g7, g8, g9, g10, g12, g13, g14, g15, g16, g17, g18⟩, k1, k2, k3, k4, k5, k6, k7, k8, k9, k10, k11, k12, k13, hmz⟩ := id hM
              obtain ⟨vn, vS, vN, vA, vH, vK⟩ : g m 2 = nI n ∧ (∀ i, i < n → g (m + 1) i = nI (S i)) ∧ Vr (g) (m + 4) ρ ∧ g m 11 = nI (rem14 L ρ).length ∧ (∀ i σ, (rem14 L ρ)[i]? = some σ → Vo (g) (m + 6) (74 * i) σ) ∧ ∀ i, i < 2 → (K i = none → g (m + 8) i = 0) ∧ ∀ σ, K i = some σ → g (m + 8) i = 1 ∧ Vo (g) (m + 7) (74 * i) σ := hv
              obtain ⟨ok1, ok2, ok3, ok4, ok5, ok6⟩ : Ok T ρ ∧ (∀ σ, σ ∈ (rem14 L ρ) → Ok T σ) ∧ (∀ i σ, K i = some σ → Ok T σ) ∧ n ≤ 120 ∧ (∀ i, i < n → S i < 256) ∧ (rem14 L ρ).length ≤ 14 := hk
              obtain ⟨hW, hB⟩ := id ok1
              obtain ⟨hb0, hb3, hb4, hb5, hb6, hb7⟩ := id hB
              obtain ⟨w1, w2, w7, w8, w9, w10, w11, w11', w12, wB, wP⟩ := id hW
              refine x_aload_n dX5_addBus_74 rfl ?_
              refine x_get 7 hO dX5_addBus_75 f_X5_19 (by first | (simp only [gK_wI]; assumption) | assumption) ⟨by decide, by decide⟩ (v := .ref (m + 4)) (congrArg va_rf g8) ?_
              refine x_iload_n dX5_addBus_78 rfl ?_
              refine x_iload_n dX5_addBus_79 rfl ?_
              refine x_iload_n dX5_addBus_80 rfl ?_
              refine x_iload dX5_addBus_81 rfl ?_
              refine x_iload dX5_addBus_83 rfl ?_
              refine x_callS (As := [_, _, _, _, _, _]) hO dX5_addBus_85 o_X5_addBusIn s_X5_addBusIn l_X5_178 ⟨by decide, by decide⟩ ⟨by decide, by decide⟩ rfl rfl (Nat.le_of_ble_eq_true rfl) (r_addBusIn hO k4 vN (by omega) (fun f vv r => ?_))
              dsimp only [Option.toList, List.cons_append, List.nil_append]
              refine x_iret dX5_addBus_88 rfl rfl ?_
              refine hq _ f ?_ (fun a ha => (r a (by omega)).trans (r2 a (by omega) (by omega))) ?_ ?_
              · rw [eA]
                exact RM_now (C := wI C g) hR2 (congrFun (r m (by omega)) 2) (congrFun (r m (by omega)) 11) (fun k hk => r _ (by omega)) vv (Nat.le_refl _) (Ok_addB ok1 hok (by omega))
              · rw [eA]
                exact (congrFun (r m (by omega)) 0).trans z2
              · rw [eA]
                exact fun _ => rfl
            · exact absurd (hr62.trans (if_neg (by decide))) c65
          · refine x_iconst (v := nI 2) dX5_addBus_57 (by decide) ?_
            refine x_goto (tgt := 62) dX5_addBus_58 (by decide) ?_
            refine x_callV (As := [_]) 7 hO dX5_addBus_62 o_X5_refused v_X5_refused l_X5_137 ⟨by decide, by decide⟩ (by first | (simp only [gK_wI]; assumption) | assumption) ⟨by decide, by decide⟩ rfl ⟨by decide, by decide⟩ rfl rfl (Nat.le_of_ble_eq_true rfl) (t_ref hO hR (by decide) (fun r62 f62 hr62 z62 hR1 fr62 => ?_))
            dsimp only [Option.toList, List.cons_append, List.nil_append]
            refine x_if_eq (tgt := 70) dX5_addBus_65 (by decide) (fun c65 => ?_) (fun c65 => ?_)
            · exact absurd (c65.symm.trans (hr62.trans (if_pos (by decide)))) (by decide)
            · have p62 := (ite01 hr62).2 c65
              refine x_iconst (v := nI 0) dX5_addBus_68 (by decide) ?_
              refine x_iret dX5_addBus_69 rfl rfl ?_
              have eA : aAddBus (S, n, ρ, L, K) a b c d e = (2, 0, (S, n, ρ, L, K)) := (if_pos hokB).trans (if_pos ((nI_eq (by omega) (by decide)).mp c54))
              refine hq _ f62 ?_ (fun a ha => fr62 a (by omega)) ?_ ?_
              · rw [eA]
                exact hR1
              · rw [eA]
                exact z62
              · rw [eA]
                exact fun h => absurd h (Nat.succ_ne_zero _)
        · exact absurd c39 (by decide)

theorem r_route {G : GT} {C : AH} {Q : QT} {X : XT} {m T n : Nat} {S : Nat → Nat} {ρ : Rw} {L : List Rw} {K : Nat → Option Rw} {b a l k : Int32} (hO : GO G) (hT : T ≤ 40000) (hR : RM T C m (S, n, ρ, L, K)) (hq : ∀ (r : Int32) (f : Nat → Nat → Int32), RM (T) (wI C f) m (aRoute (S, n, ρ, L, K) b a l k).2.2 → (∀ a, (a < m ∨ m + 14 ≤ a) → f a = gI C a) → f m 0 = nI (aRoute (S, n, ρ, L, K) b a l k).1 → ((aRoute (S, n, ρ, L, K) b a l k).1 = 0 → r = (aRoute (S, n, ρ, L, K) b a l k).2.1) → Q (some (.int r)) (wI C f)) : Mt G M_X5_route [.ref m, .int b, .int a, .int l, .int k] C Q X := by
  refine Mt_of (by decide) (Nat.le_of_ble_eq_true rfl) ?_
  obtain ⟨hk, hM, hv⟩ := id hR
  obtain ⟨hm0, ⟨g1, g6, g7, g8, g9, g10, g12, g13, g14, g15, g16, g17, g18⟩, k1, k2, k3, k4, k5, k6, k7, k8, k9, k10, k11, k12, k13, hmz⟩ := id hM
  obtain ⟨vn, vS, vN, vA, vH, vK⟩ : gI C m 2 = nI n ∧ (∀ i, i < n → gI C (m + 1) i = nI (S i)) ∧ Vr (gI C) (m + 4) ρ ∧ gI C m 11 = nI L.length ∧ (∀ i σ, L[i]? = some σ → Vo (gI C) (m + 6) (74 * i) σ) ∧ ∀ i, i < 2 → (K i = none → gI C (m + 8) i = 0) ∧ ∀ σ, K i = some σ → gI C (m + 8) i = 1 ∧ Vo (gI C) (m + 7) (74 * i) σ := hv
  obtain ⟨ok1, ok2, ok3, ok4, ok5, ok6⟩ : Ok T ρ ∧ (∀ σ, σ ∈ L → Ok T σ) ∧ (∀ i σ, K i = some σ → Ok T σ) ∧ n ≤ 120 ∧ (∀ i, i < n → S i < 256) ∧ L.length ≤ 14 := hk
  obtain ⟨hW, hB⟩ := id ok1
  obtain ⟨hb0, hb3, hb4, hb5, hb6, hb7⟩ := id hB
  obtain ⟨w1, w2, w7, w8, w9, w10, w11, w11', w12, wB, wP⟩ := id hW
  refine x_aload_n dX5_route_0 rfl ?_
  refine x_aload_n dX5_route_1 rfl ?_
  refine x_iload_n dX5_route_2 rfl ?_
  refine x_callV (As := [_]) 7 hO dX5_route_3 o_X5_isBus v_X5_isBus l_X5_212 ⟨by decide, by decide⟩ (by first | (simp only [gK_wI]; assumption) | assumption) ⟨by decide, by decide⟩ rfl ⟨by decide, by decide⟩ rfl rfl (Nat.le_of_ble_eq_true rfl) (r_isBus hO hM vN (fun r3 hr3 => ?_))
  dsimp only [Option.toList, List.cons_append, List.nil_append]
  refine x_if_ne (tgt := 13) dX5_route_6 (by decide) (fun c6 => ?_) (fun c6 => ?_)
  · have p3 := (ite01 hr3).2 c6
    obtain ⟨j, hj, rfl⟩ := (ix_of (by omega)).mp p3
    obtain ⟨b0, b0', b1, b2, b2', b3, b4, b34, b6⟩ := wB j hj
    refine x_iload_n dX5_route_13 rfl ?_
    refine x_iload_n dX5_route_14 rfl ?_
    refine x_iload dX5_route_15 rfl ?_
    refine x_callS (As := [_, _, _]) hO dX5_route_17 o_X5_isRoute s_X5_isRoute l_X5_248 ⟨by decide, by decide⟩ ⟨by decide, by decide⟩ rfl rfl (Nat.le_of_ble_eq_true rfl) (r_isRoute hO (fun r17 hr17 => ?_))
    dsimp only [Option.toList, List.cons_append, List.nil_append]
    refine x_if_ne (tgt := 27) dX5_route_20 (by decide) (fun c20 => ?_) (fun c20 => ?_)
    · have p17 := (ite01 hr17).2 c20
      refine x_aload_n dX5_route_27 rfl ?_
      refine x_get 7 hO dX5_route_28 f_X5_19 (by first | (simp only [gK_wI]; assumption) | assumption) ⟨by decide, by decide⟩ (v := .ref (m + 4)) (congrArg va_rf g8) ?_
      refine x_iload_n dX5_route_31 rfl ?_
      refine x_bipush (v := nI 6) dX5_route_32 (by decide) ?_
      refine x_callS (As := [_, _]) hO dX5_route_34 o_X5_busAt s_X5_busAt l_X5_67 ⟨by decide, by decide⟩ ⟨by decide, by decide⟩ rfl rfl (Nat.le_of_ble_eq_true rfl) (r_busAt hO ?_)
      dsimp only [Option.toList, List.cons_append, List.nil_append]
      refine x_row _ hO dX5_route_37 k4 vN rfl (by simp only [bi]; omega) ?_
      refine x_iconst (v := nI 1) dX5_route_38 (by decide) ?_
      refine x_icmp_ne (tgt := 46) dX5_route_39 (by decide) (fun c39 => ?_) (fun c39 => ?_)
      · refine x_iconst (v := nI 0) dX5_route_46 (by decide) ?_
        refine x_callV (As := [_]) 7 hO dX5_route_47 o_X5_refused v_X5_refused l_X5_137 ⟨by decide, by decide⟩ (by first | (simp only [gK_wI]; assumption) | assumption) ⟨by decide, by decide⟩ rfl ⟨by decide, by decide⟩ rfl rfl (Nat.le_of_ble_eq_true rfl) (t_ref hO hR (by decide) (fun r47 f47 hr47 z47 hR1 fr47 => ?_))
        dsimp only [Option.toList, List.cons_append, List.nil_append]
        refine x_if_eq (tgt := 55) dX5_route_50 (by decide) (fun c50 => ?_) (fun c50 => ?_)
        · have p47 := (ite01 hr47).1 c50
          obtain ⟨q1, q2, q3, rfl, rfl, rfl, hok⟩ := okR_N.mp p17
          obtain ⟨o1, o2, o3, o4, o5⟩ := id hok
          obtain ⟨hk, hM, hv⟩ := id hR1
          obtain ⟨hm0, ⟨g1, g6, g7, g8, g9, g10, g12, g13, g14, g15, g16, g17, g18⟩, k1, k2, k3, k4, k5, k6, k7, k8, k9, k10, k11, k12, k13, hmz⟩ := id hM
          obtain ⟨vn, vS, vN, vA, vH, vK⟩ : f47 m 2 = nI n ∧ (∀ i, i < n → f47 (m + 1) i = nI (S i)) ∧ Vr (f47) (m + 4) ρ ∧ f47 m 11 = nI L.length ∧ (∀ i σ, L[i]? = some σ → Vo (f47) (m + 6) (74 * i) σ) ∧ ∀ i, i < 2 → (K i = none → f47 (m + 8) i = 0) ∧ ∀ σ, K i = some σ → f47 (m + 8) i = 1 ∧ Vo (f47) (m + 7) (74 * i) σ := hv
          obtain ⟨ok1, ok2, ok3, ok4, ok5, ok6⟩ : Ok T ρ ∧ (∀ σ, σ ∈ L → Ok T σ) ∧ (∀ i σ, K i = some σ → Ok T σ) ∧ n ≤ 120 ∧ (∀ i, i < n → S i < 256) ∧ L.length ≤ 14 := hk
          obtain ⟨hW, hB⟩ := id ok1
          obtain ⟨hb0, hb3, hb4, hb5, hb6, hb7⟩ := id hB
          obtain ⟨w1, w2, w7, w8, w9, w10, w11, w11', w12, wB, wP⟩ := id hW
          have h16 : ρ (bi j 6) ≠ 1 := fun e => c39 (by rw [e])
          have eA : aRoute (S, n, ρ, L, K) (nI j) (nI q1) (nI q2) (nI q3) = (0, nI (ρ (bi j 2)), (S, n, rtB ρ j q1 q2 q3, rem14 L ρ, K)) := by
            unfold aRoute
            rw [if_pos p3, if_pos p17, nI_clamp (show j < 2 ^ 31 by omega), nI_clamp (by omega), nI_clamp (by omega), nI_clamp (by omega)]
            exact if_neg h16
          refine x_aload_n dX5_route_55 rfl ?_
          refine x_callV (As := []) 7 hO dX5_route_56 o_X5_remember v_X5_remember l_X5_251 ⟨by decide, by decide⟩ (by first | (simp only [gK_wI]; assumption) | assumption) ⟨by decide, by decide⟩ rfl ⟨by decide, by decide⟩ rfl rfl (Nat.le_of_ble_eq_true rfl) (t_rem hO hT hR1 (fun g hR2 z2 r2 => ?_))
          dsimp only [Option.toList, List.cons_append, List.nil_append]
          have hR2 : RM T (wI C g) m (S, n, ρ, rem14 L ρ, K) := hR2
          have z2 : g m 0 = nI 0 := z2.trans z47
          have r2 : ∀ a, a ≠ m → a ≠ m + 6 → g a = gI C a := fun a h1 h2 => (r2 a h1 h2).trans (fr47 a h1)
          obtain ⟨hk, hM, hv⟩ := id hR2
          obtain ⟨hm0, ⟨g1, g6, g7, g8, g9, g10, g12, g13, g14, g15, g16, g17, g18⟩, k1, k2, k3, k4, k5, k6, k7, k8, k9, k10, k11, k12, k13, hmz⟩ := id hM
          obtain ⟨vn, vS, vN, vA, vH, vK⟩ : g m 2 = nI n ∧ (∀ i, i < n → g (m + 1) i = nI (S i)) ∧ Vr (g) (m + 4) ρ ∧ g m 11 = nI (rem14 L ρ).length ∧ (∀ i σ, (rem14 L ρ)[i]? = some σ → Vo (g) (m + 6) (74 * i) σ) ∧ ∀ i, i < 2 → (K i = none → g (m + 8) i = 0) ∧ ∀ σ, K i = some σ → g (m + 8) i = 1 ∧ Vo (g) (m + 7) (74 * i) σ := hv
          obtain ⟨ok1, ok2, ok3, ok4, ok5, ok6⟩ : Ok T ρ ∧ (∀ σ, σ ∈ (rem14 L ρ) → Ok T σ) ∧ (∀ i σ, K i = some σ → Ok T σ) ∧ n ≤ 120 ∧ (∀ i, i < n → S i < 256) ∧ (rem14 L ρ).length ≤ 14 := hk
          obtain ⟨hW, hB⟩ := id ok1
          obtain ⟨hb0, hb3, hb4, hb5, hb6, hb7⟩ := id hB
          obtain ⟨w1, w2, w7, w8, w9, w10, w11, w11', w12, wB, wP⟩ := id hW
          refine x_aload_n dX5_route_59 rfl ?_
          refine x_get 7 hO dX5_route_60 f_X5_19 (by first | (simp only [gK_wI]; assumption) | assumption) ⟨by decide, by decide⟩ (v := .ref (m + 4)) (congrArg va_rf g8) ?_
          refine x_iload_n dX5_route_63 rfl ?_
          refine x_iload_n dX5_route_64 rfl ?_
          refine x_iload_n dX5_route_65 rfl ?_
          refine x_iload dX5_route_66 rfl ?_
          refine x_callS (As := [_, _, _, _, _]) hO dX5_route_68 o_X5_routeIn s_X5_routeIn l_X5_257 ⟨by decide, by decide⟩ ⟨by decide, by decide⟩ rfl rfl (Nat.le_of_ble_eq_true rfl) (r_routeIn hO k4 vN (by omega) (fun f vv r => ?_))
          dsimp only [Option.toList, List.cons_append, List.nil_append]
          refine x_iret dX5_route_71 rfl rfl ?_
          refine hq _ f ?_ (fun a ha => (r a (by omega)).trans (r2 a (by omega) (by omega))) ?_ ?_
          · rw [eA]
            exact RM_now (C := wI C g) hR2 (congrFun (r m (by omega)) 2) (congrFun (r m (by omega)) 11) (fun k hk => r _ (by omega)) vv (Nat.le_refl _) (Ok_rtB ok1 (by omega) hok)
          · rw [eA]
            exact (congrFun (r m (by omega)) 0).trans z2
          · rw [eA]
            exact fun _ => rfl
        · exact absurd (hr47.trans (if_neg (by decide))) c50
      · refine x_iconst (v := nI 3) dX5_route_42 (by decide) ?_
        refine x_goto (tgt := 47) dX5_route_43 (by decide) ?_
        refine x_callV (As := [_]) 7 hO dX5_route_47 o_X5_refused v_X5_refused l_X5_137 ⟨by decide, by decide⟩ (by first | (simp only [gK_wI]; assumption) | assumption) ⟨by decide, by decide⟩ rfl ⟨by decide, by decide⟩ rfl rfl (Nat.le_of_ble_eq_true rfl) (t_ref hO hR (by decide) (fun r47 f47 hr47 z47 hR1 fr47 => ?_))
        dsimp only [Option.toList, List.cons_append, List.nil_append]
        refine x_if_eq (tgt := 55) dX5_route_50 (by decide) (fun c50 => ?_) (fun c50 => ?_)
        · exact absurd (c50.symm.trans (hr47.trans (if_pos (by decide)))) (by decide)
        · have p47 := (ite01 hr47).2 c50
          refine x_iconst (v := nI 0) dX5_route_53 (by decide) ?_
          refine x_iret dX5_route_54 rfl rfl ?_
          have eA : aRoute (S, n, ρ, L, K) (nI j) a l k = (3, 0, (S, n, ρ, L, K)) := by
            unfold aRoute
            rw [if_pos p3, if_pos p17, nI_clamp (by omega)]
            exact if_pos ((nI_eq (by omega) (by decide)).mp c39)
          refine hq _ f47 ?_ (fun a ha => fr47 a (by omega)) ?_ ?_
          · rw [eA]
            exact hR1
          · rw [eA]
            exact z47
          · rw [eA]
            exact fun h => absurd h (Nat.succ_ne_zero _)
    · have p17 := (ite01 hr17).1 c20
      refine x_iconst (v := nI 2) dX5_route_23 (by decide) ?_
      refine x_goto (tgt := 47) dX5_route_24 (by decide) ?_
      refine x_callV (As := [_]) 7 hO dX5_route_47 o_X5_refused v_X5_refused l_X5_137 ⟨by decide, by decide⟩ (by first | (simp only [gK_wI]; assumption) | assumption) ⟨by decide, by decide⟩ rfl ⟨by decide, by decide⟩ rfl rfl (Nat.le_of_ble_eq_true rfl) (t_ref hO hR (by decide) (fun r47 f47 hr47 z47 hR1 fr47 => ?_))
      dsimp only [Option.toList, List.cons_append, List.nil_append]
      refine x_if_eq (tgt := 55) dX5_route_50 (by decide) (fun c50 => ?_) (fun c50 => ?_)
      · exact absurd (c50.symm.trans (hr47.trans (if_pos (by decide)))) (by decide)
      · have p47 := (ite01 hr47).2 c50
        refine x_iconst (v := nI 0) dX5_route_53 (by decide) ?_
        refine x_iret dX5_route_54 rfl rfl ?_
        have eA : aRoute (S, n, ρ, L, K) (nI j) a l k = (2, 0, (S, n, ρ, L, K)) := (if_pos p3).trans (if_neg p17)
        refine hq _ f47 ?_ (fun a ha => fr47 a (by omega)) ?_ ?_
        · rw [eA]
          exact hR1
        · rw [eA]
          exact z47
        · rw [eA]
          exact fun h => absurd h (Nat.succ_ne_zero _)
  · have p3 := (ite01 hr3).1 c6
    refine x_iconst (v := nI 1) dX5_route_9 (by decide) ?_
    refine x_goto (tgt := 47) dX5_route_10 (by decide) ?_
    refine x_callV (As := [_]) 7 hO dX5_route_47 o_X5_refused v_X5_refused l_X5_137 ⟨by decide, by decide⟩ (by first | (simp only [gK_wI]; assumption) | assumption) ⟨by decide, by decide⟩ rfl ⟨by decide, by decide⟩ rfl rfl (Nat.le_of_ble_eq_true rfl) (t_ref hO hR (by decide) (fun r47 f47 hr47 z47 hR1 fr47 => ?_))
    dsimp only [Option.toList, List.cons_append, List.nil_append]
    refine x_if_eq (tgt := 55) dX5_route_50 (by decide) (fun c50 => ?_) (fun c50 => ?_)
    · exact absurd (c50.symm.trans (hr47.trans (if_pos (by decide)))) (by decide)
    · have p47 := (ite01 hr47).2 c50
      refine x_iconst (v := nI 0) dX5_route_53 (by decide) ?_
      refine x_iret dX5_route_54 rfl rfl ?_
      have eA : aRoute (S, n, ρ, L, K) b a l k = (1, 0, (S, n, ρ, L, K)) := if_neg p3
      refine hq _ f47 ?_ (fun a ha => fr47 a (by omega)) ?_ ?_
      · rw [eA]
        exact hR1
      · rw [eA]
        exact z47
      · rw [eA]
        exact fun h => absurd h (Nat.succ_ne_zero _)

theorem r_battery {G : GT} {C : AH} {Q : QT} {X : XT} {m T n : Nat} {S : Nat → Nat} {ρ : Rw} {L : List Rw} {K : Nat → Option Rw} {b a : Int32} (hO : GO G) (hT : T ≤ 40000) (hR : RM T C m (S, n, ρ, L, K)) (hq : ∀ (r : Int32) (f : Nat → Nat → Int32), RM (T) (wI C f) m (aBattery (S, n, ρ, L, K) b a).2.2 → (∀ a, (a < m ∨ m + 14 ≤ a) → f a = gI C a) → f m 0 = nI (aBattery (S, n, ρ, L, K) b a).1 → ((aBattery (S, n, ρ, L, K) b a).1 = 0 → r = (aBattery (S, n, ρ, L, K) b a).2.1) → Q (some (.int r)) (wI C f)) : Mt G M_X5_battery [.ref m, .int b, .int a] C Q X := by
  refine Mt_of (by decide) (Nat.le_of_ble_eq_true rfl) ?_
  obtain ⟨hk, hM, hv⟩ := id hR
  obtain ⟨hm0, ⟨g1, g6, g7, g8, g9, g10, g12, g13, g14, g15, g16, g17, g18⟩, k1, k2, k3, k4, k5, k6, k7, k8, k9, k10, k11, k12, k13, hmz⟩ := id hM
  obtain ⟨vn, vS, vN, vA, vH, vK⟩ : gI C m 2 = nI n ∧ (∀ i, i < n → gI C (m + 1) i = nI (S i)) ∧ Vr (gI C) (m + 4) ρ ∧ gI C m 11 = nI L.length ∧ (∀ i σ, L[i]? = some σ → Vo (gI C) (m + 6) (74 * i) σ) ∧ ∀ i, i < 2 → (K i = none → gI C (m + 8) i = 0) ∧ ∀ σ, K i = some σ → gI C (m + 8) i = 1 ∧ Vo (gI C) (m + 7) (74 * i) σ := hv
  obtain ⟨ok1, ok2, ok3, ok4, ok5, ok6⟩ : Ok T ρ ∧ (∀ σ, σ ∈ L → Ok T σ) ∧ (∀ i σ, K i = some σ → Ok T σ) ∧ n ≤ 120 ∧ (∀ i, i < n → S i < 256) ∧ L.length ≤ 14 := hk
  obtain ⟨hW, hB⟩ := id ok1
  obtain ⟨hb0, hb3, hb4, hb5, hb6, hb7⟩ := id hB
  obtain ⟨w1, w2, w7, w8, w9, w10, w11, w11', w12, wB, wP⟩ := id hW
  refine x_aload_n dX5_battery_0 rfl ?_
  refine x_aload_n dX5_battery_1 rfl ?_
  refine x_iload_n dX5_battery_2 rfl ?_
  refine x_callV (As := [_]) 7 hO dX5_battery_3 o_X5_isBus v_X5_isBus l_X5_212 ⟨by decide, by decide⟩ (by first | (simp only [gK_wI]; assumption) | assumption) ⟨by decide, by decide⟩ rfl ⟨by decide, by decide⟩ rfl rfl (Nat.le_of_ble_eq_true rfl) (r_isBus hO hM vN (fun r3 hr3 => ?_))
  dsimp only [Option.toList, List.cons_append, List.nil_append]
  refine x_if_ne (tgt := 13) dX5_battery_6 (by decide) (fun c6 => ?_) (fun c6 => ?_)
  · have p3 := (ite01 hr3).2 c6
    obtain ⟨j, hj, rfl⟩ := (ix_of (by omega)).mp p3
    obtain ⟨b0, b0', b1, b2, b2', b3, b4, b34, b6⟩ := wB j hj
    refine x_iload_n dX5_battery_13 rfl ?_
    refine x_callS (As := [_]) hO dX5_battery_14 o_X5_isBattery s_X5_isBattery l_X5_245 ⟨by decide, by decide⟩ ⟨by decide, by decide⟩ rfl rfl (Nat.le_of_ble_eq_true rfl) (r_isBattery hO (fun r14 hr14 => ?_))
    dsimp only [Option.toList, List.cons_append, List.nil_append]
    refine x_if_ne (tgt := 24) dX5_battery_17 (by decide) (fun c17 => ?_) (fun c17 => ?_)
    · have p14 := (ite01 hr14).2 c17
      refine x_aload_n dX5_battery_24 rfl ?_
      refine x_get 7 hO dX5_battery_25 f_X5_19 (by first | (simp only [gK_wI]; assumption) | assumption) ⟨by decide, by decide⟩ (v := .ref (m + 4)) (congrArg va_rf g8) ?_
      refine x_iload_n dX5_battery_28 rfl ?_
      refine x_bipush (v := nI 6) dX5_battery_29 (by decide) ?_
      refine x_callS (As := [_, _]) hO dX5_battery_31 o_X5_busAt s_X5_busAt l_X5_67 ⟨by decide, by decide⟩ ⟨by decide, by decide⟩ rfl rfl (Nat.le_of_ble_eq_true rfl) (r_busAt hO ?_)
      dsimp only [Option.toList, List.cons_append, List.nil_append]
      refine x_row _ hO dX5_battery_34 k4 vN rfl (by simp only [bi]; omega) ?_
      refine x_iconst (v := nI 1) dX5_battery_35 (by decide) ?_
      refine x_icmp_ne (tgt := 43) dX5_battery_36 (by decide) (fun c36 => ?_) (fun c36 => ?_)
      · refine x_iconst (v := nI 0) dX5_battery_43 (by decide) ?_
        refine x_callV (As := [_]) 7 hO dX5_battery_44 o_X5_refused v_X5_refused l_X5_137 ⟨by decide, by decide⟩ (by first | (simp only [gK_wI]; assumption) | assumption) ⟨by decide, by decide⟩ rfl ⟨by decide, by decide⟩ rfl rfl (Nat.le_of_ble_eq_true rfl) (t_ref hO hR (by decide) (fun r44 f44 hr44 z44 hR1 fr44 => ?_))
        dsimp only [Option.toList, List.cons_append, List.nil_append]
        refine x_if_eq (tgt := 52) dX5_battery_47 (by decide) (fun c47 => ?_) (fun c47 => ?_)
        · have p44 := (ite01 hr44).1 c47
          obtain ⟨q1, y0, y9, rfl⟩ := (rng (by decide) (by decide)).mp p14
          obtain ⟨hk, hM, hv⟩ := id hR1
          obtain ⟨hm0, ⟨g1, g6, g7, g8, g9, g10, g12, g13, g14, g15, g16, g17, g18⟩, k1, k2, k3, k4, k5, k6, k7, k8, k9, k10, k11, k12, k13, hmz⟩ := id hM
          obtain ⟨vn, vS, vN, vA, vH, vK⟩ : f44 m 2 = nI n ∧ (∀ i, i < n → f44 (m + 1) i = nI (S i)) ∧ Vr (f44) (m + 4) ρ ∧ f44 m 11 = nI L.length ∧ (∀ i σ, L[i]? = some σ → Vo (f44) (m + 6) (74 * i) σ) ∧ ∀ i, i < 2 → (K i = none → f44 (m + 8) i = 0) ∧ ∀ σ, K i = some σ → f44 (m + 8) i = 1 ∧ Vo (f44) (m + 7) (74 * i) σ := hv
          obtain ⟨ok1, ok2, ok3, ok4, ok5, ok6⟩ : Ok T ρ ∧ (∀ σ, σ ∈ L → Ok T σ) ∧ (∀ i σ, K i = some σ → Ok T σ) ∧ n ≤ 120 ∧ (∀ i, i < n → S i < 256) ∧ L.length ≤ 14 := hk
          obtain ⟨hW, hB⟩ := id ok1
          obtain ⟨hb0, hb3, hb4, hb5, hb6, hb7⟩ := id hB
          obtain ⟨w1, w2, w7, w8, w9, w10, w11, w11', w12, wB, wP⟩ := id hW
          have h16 : ρ (bi j 6) ≠ 1 := fun e => c36 (by rw [e])
          have eA : aBattery (S, n, ρ, L, K) (nI j) (nI q1) = (0, nI (ρ (bi j 0)), (S, n, btB ρ j q1, rem14 L ρ, K)) := by
            unfold aBattery
            rw [if_pos p3, if_pos p14, nI_clamp (show j < 2 ^ 31 by omega), nI_clamp (by omega)]
            exact if_neg h16
          refine x_aload_n dX5_battery_52 rfl ?_
          refine x_callV (As := []) 7 hO dX5_battery_53 o_X5_remember v_X5_remember l_X5_251 ⟨by decide, by decide⟩ (by first | (simp only [gK_wI]; assumption) | assumption) ⟨by decide, by decide⟩ rfl ⟨by decide, by decide⟩ rfl rfl (Nat.le_of_ble_eq_true rfl) (t_rem hO hT hR1 (fun g hR2 z2 r2 => ?_))
          dsimp only [Option.toList, List.cons_append, List.nil_append]
          have hR2 : RM T (wI C g) m (S, n, ρ, rem14 L ρ, K) := hR2
          have z2 : g m 0 = nI 0 := z2.trans z44
          have r2 : ∀ a, a ≠ m → a ≠ m + 6 → g a = gI C a := fun a h1 h2 => (r2 a h1 h2).trans (fr44 a h1)
          obtain ⟨hk, hM, hv⟩ := id hR2
          obtain ⟨hm0, ⟨g1, g6, g7, g8, g9, g10, g12, g13, g14, g15, g16, g17, g18⟩, k1, k2, k3, k4, k5, k6, k7, k8, k9, k10, k11, k12, k13, hmz⟩ := id hM
          obtain ⟨vn, vS, vN, vA, vH, vK⟩ : g m 2 = nI n ∧ (∀ i, i < n → g (m + 1) i = nI (S i)) ∧ Vr (g) (m + 4) ρ ∧ g m 11 = nI (rem14 L ρ).length ∧ (∀ i σ, (rem14 L ρ)[i]? = some σ → Vo (g) (m + 6) (74 * i) σ) ∧ ∀ i, i < 2 → (K i = none → g (m + 8) i = 0) ∧ ∀ σ, K i = some σ → g (m + 8) i = 1 ∧ Vo (g) (m + 7) (74 * i) σ := hv
          obtain ⟨ok1, ok2, ok3, ok4, ok5, ok6⟩ : Ok T ρ ∧ (∀ σ, σ ∈ (rem14 L ρ) → Ok T σ) ∧ (∀ i σ, K i = some σ → Ok T σ) ∧ n ≤ 120 ∧ (∀ i, i < n → S i < 256) ∧ (rem14 L ρ).length ≤ 14 := hk
          obtain ⟨hW, hB⟩ := id ok1
          obtain ⟨hb0, hb3, hb4, hb5, hb6, hb7⟩ := id hB
          obtain ⟨w1, w2, w7, w8, w9, w10, w11, w11', w12, wB, wP⟩ := id hW
          refine x_aload_n dX5_battery_56 rfl ?_
          refine x_get 7 hO dX5_battery_57 f_X5_19 (by first | (simp only [gK_wI]; assumption) | assumption) ⟨by decide, by decide⟩ (v := .ref (m + 4)) (congrArg va_rf g8) ?_
          refine x_iload_n dX5_battery_60 rfl ?_
          refine x_iload_n dX5_battery_61 rfl ?_
          refine x_callS (As := [_, _, _]) hO dX5_battery_62 o_X5_batteryIn s_X5_batteryIn l_X5_261 ⟨by decide, by decide⟩ ⟨by decide, by decide⟩ rfl rfl (Nat.le_of_ble_eq_true rfl) (r_batteryIn hO k4 vN (by omega) (fun f vv r => ?_))
          dsimp only [Option.toList, List.cons_append, List.nil_append]
          refine x_iret dX5_battery_65 rfl rfl ?_
          refine hq _ f ?_ (fun a ha => (r a (by omega)).trans (r2 a (by omega) (by omega))) ?_ ?_
          · rw [eA]
            exact RM_now (C := wI C g) hR2 (congrFun (r m (by omega)) 2) (congrFun (r m (by omega)) 11) (fun k hk => r _ (by omega)) vv (Nat.le_refl _) (Ok_btB ok1 (by omega) y0 y9)
          · rw [eA]
            exact (congrFun (r m (by omega)) 0).trans z2
          · rw [eA]
            exact fun _ => rfl
        · exact absurd (hr44.trans (if_neg (by decide))) c47
      · refine x_iconst (v := nI 3) dX5_battery_39 (by decide) ?_
        refine x_goto (tgt := 44) dX5_battery_40 (by decide) ?_
        refine x_callV (As := [_]) 7 hO dX5_battery_44 o_X5_refused v_X5_refused l_X5_137 ⟨by decide, by decide⟩ (by first | (simp only [gK_wI]; assumption) | assumption) ⟨by decide, by decide⟩ rfl ⟨by decide, by decide⟩ rfl rfl (Nat.le_of_ble_eq_true rfl) (t_ref hO hR (by decide) (fun r44 f44 hr44 z44 hR1 fr44 => ?_))
        dsimp only [Option.toList, List.cons_append, List.nil_append]
        refine x_if_eq (tgt := 52) dX5_battery_47 (by decide) (fun c47 => ?_) (fun c47 => ?_)
        · exact absurd (c47.symm.trans (hr44.trans (if_pos (by decide)))) (by decide)
        · have p44 := (ite01 hr44).2 c47
          refine x_iconst (v := nI 0) dX5_battery_50 (by decide) ?_
          refine x_iret dX5_battery_51 rfl rfl ?_
          have eA : aBattery (S, n, ρ, L, K) (nI j) a = (3, 0, (S, n, ρ, L, K)) := by
            unfold aBattery
            rw [if_pos p3, if_pos p14, nI_clamp (by omega)]
            exact if_pos ((nI_eq (by omega) (by decide)).mp c36)
          refine hq _ f44 ?_ (fun a ha => fr44 a (by omega)) ?_ ?_
          · rw [eA]
            exact hR1
          · rw [eA]
            exact z44
          · rw [eA]
            exact fun h => absurd h (Nat.succ_ne_zero _)
    · have p14 := (ite01 hr14).1 c17
      refine x_iconst (v := nI 2) dX5_battery_20 (by decide) ?_
      refine x_goto (tgt := 44) dX5_battery_21 (by decide) ?_
      refine x_callV (As := [_]) 7 hO dX5_battery_44 o_X5_refused v_X5_refused l_X5_137 ⟨by decide, by decide⟩ (by first | (simp only [gK_wI]; assumption) | assumption) ⟨by decide, by decide⟩ rfl ⟨by decide, by decide⟩ rfl rfl (Nat.le_of_ble_eq_true rfl) (t_ref hO hR (by decide) (fun r44 f44 hr44 z44 hR1 fr44 => ?_))
      dsimp only [Option.toList, List.cons_append, List.nil_append]
      refine x_if_eq (tgt := 52) dX5_battery_47 (by decide) (fun c47 => ?_) (fun c47 => ?_)
      · exact absurd (c47.symm.trans (hr44.trans (if_pos (by decide)))) (by decide)
      · have p44 := (ite01 hr44).2 c47
        refine x_iconst (v := nI 0) dX5_battery_50 (by decide) ?_
        refine x_iret dX5_battery_51 rfl rfl ?_
        have eA : aBattery (S, n, ρ, L, K) (nI j) a = (2, 0, (S, n, ρ, L, K)) := (if_pos p3).trans (if_neg p14)
        refine hq _ f44 ?_ (fun a ha => fr44 a (by omega)) ?_ ?_
        · rw [eA]
          exact hR1
        · rw [eA]
          exact z44
        · rw [eA]
          exact fun h => absurd h (Nat.succ_ne_zero _)
  · have p3 := (ite01 hr3).1 c6
    refine x_iconst (v := nI 1) dX5_battery_9 (by decide) ?_
    refine x_goto (tgt := 44) dX5_battery_10 (by decide) ?_
    refine x_callV (As := [_]) 7 hO dX5_battery_44 o_X5_refused v_X5_refused l_X5_137 ⟨by decide, by decide⟩ (by first | (simp only [gK_wI]; assumption) | assumption) ⟨by decide, by decide⟩ rfl ⟨by decide, by decide⟩ rfl rfl (Nat.le_of_ble_eq_true rfl) (t_ref hO hR (by decide) (fun r44 f44 hr44 z44 hR1 fr44 => ?_))
    dsimp only [Option.toList, List.cons_append, List.nil_append]
    refine x_if_eq (tgt := 52) dX5_battery_47 (by decide) (fun c47 => ?_) (fun c47 => ?_)
    · exact absurd (c47.symm.trans (hr44.trans (if_pos (by decide)))) (by decide)
    · have p44 := (ite01 hr44).2 c47
      refine x_iconst (v := nI 0) dX5_battery_50 (by decide) ?_
      refine x_iret dX5_battery_51 rfl rfl ?_
      have eA : aBattery (S, n, ρ, L, K) b a = (1, 0, (S, n, ρ, L, K)) := if_neg p3
      refine hq _ f44 ?_ (fun a ha => fr44 a (by omega)) ?_ ?_
      · rw [eA]
        exact hR1
      · rw [eA]
        exact z44
      · rw [eA]
        exact fun h => absurd h (Nat.succ_ne_zero _)

theorem r_undo {G : GT} {C : AH} {Q : QT} {X : XT} {m T n : Nat} {S : Nat → Nat} {ρ : Rw} {L : List Rw} {K : Nat → Option Rw}  (hO : GO G) (hT : T ≤ 40000) (hR : RM T C m (S, n, ρ, L, K)) (hq : ∀ (r : Int32) (f : Nat → Nat → Int32), RM (T) (wI C f) m (aUndo (S, n, ρ, L, K)).2.2 → (∀ a, (a < m ∨ m + 14 ≤ a) → f a = gI C a) → f m 0 = nI (aUndo (S, n, ρ, L, K)).1 → ((aUndo (S, n, ρ, L, K)).1 = 0 → r = (aUndo (S, n, ρ, L, K)).2.1) → Q (some (.int r)) (wI C f)) : Mt G M_X5_undo [.ref m] C Q X := by
  refine Mt_of (by decide) (Nat.le_of_ble_eq_true rfl) ?_
  obtain ⟨hk, hM, hv⟩ := id hR
  obtain ⟨hm0, ⟨g1, g6, g7, g8, g9, g10, g12, g13, g14, g15, g16, g17, g18⟩, k1, k2, k3, k4, k5, k6, k7, k8, k9, k10, k11, k12, k13, hmz⟩ := id hM
  obtain ⟨vn, vS, vN, vA, vH, vK⟩ : gI C m 2 = nI n ∧ (∀ i, i < n → gI C (m + 1) i = nI (S i)) ∧ Vr (gI C) (m + 4) ρ ∧ gI C m 11 = nI L.length ∧ (∀ i σ, L[i]? = some σ → Vo (gI C) (m + 6) (74 * i) σ) ∧ ∀ i, i < 2 → (K i = none → gI C (m + 8) i = 0) ∧ ∀ σ, K i = some σ → gI C (m + 8) i = 1 ∧ Vo (gI C) (m + 7) (74 * i) σ := hv
  obtain ⟨ok1, ok2, ok3, ok4, ok5, ok6⟩ : Ok T ρ ∧ (∀ σ, σ ∈ L → Ok T σ) ∧ (∀ i σ, K i = some σ → Ok T σ) ∧ n ≤ 120 ∧ (∀ i, i < n → S i < 256) ∧ L.length ≤ 14 := hk
  obtain ⟨hW, hB⟩ := id ok1
  obtain ⟨hb0, hb3, hb4, hb5, hb6, hb7⟩ := id hB
  obtain ⟨w1, w2, w7, w8, w9, w10, w11, w11', w12, wB, wP⟩ := id hW
  refine x_aload_n dX5_undo_0 rfl ?_
  refine x_aload_n dX5_undo_1 rfl ?_
  refine x_get 7 hO dX5_undo_2 f_X5_60 (by first | (simp only [gK_wI]; assumption) | assumption) ⟨by decide, by decide⟩ (v := .int (nI L.length)) (congrArg Value.int vA) ?_
  refine x_if_ne (tgt := 12) dX5_undo_5 (by decide) (fun c5 => ?_) (fun c5 => ?_)
  · refine x_iconst (v := nI 0) dX5_undo_12 (by decide) ?_
    refine x_callV (As := [_]) 7 hO dX5_undo_13 o_X5_refused v_X5_refused l_X5_137 ⟨by decide, by decide⟩ (by first | (simp only [gK_wI]; assumption) | assumption) ⟨by decide, by decide⟩ rfl ⟨by decide, by decide⟩ rfl rfl (Nat.le_of_ble_eq_true rfl) (t_ref hO hR (by decide) (fun r13 f13 hr13 z13 hR1 fr13 => ?_))
    dsimp only [Option.toList, List.cons_append, List.nil_append]
    refine x_if_eq (tgt := 21) dX5_undo_16 (by decide) (fun c16 => ?_) (fun c16 => ?_)
    · have p13 := (ite01 hr13).1 c16
      obtain ⟨hk, hM, hv⟩ := id hR1
      obtain ⟨hm0, ⟨g1, g6, g7, g8, g9, g10, g12, g13, g14, g15, g16, g17, g18⟩, k1, k2, k3, k4, k5, k6, k7, k8, k9, k10, k11, k12, k13, hmz⟩ := id hM
      obtain ⟨vn, vS, vN, vA, vH, vK⟩ : f13 m 2 = nI n ∧ (∀ i, i < n → f13 (m + 1) i = nI (S i)) ∧ Vr (f13) (m + 4) ρ ∧ f13 m 11 = nI L.length ∧ (∀ i σ, L[i]? = some σ → Vo (f13) (m + 6) (74 * i) σ) ∧ ∀ i, i < 2 → (K i = none → f13 (m + 8) i = 0) ∧ ∀ σ, K i = some σ → f13 (m + 8) i = 1 ∧ Vo (f13) (m + 7) (74 * i) σ := hv
      obtain ⟨ok1, ok2, ok3, ok4, ok5, ok6⟩ : Ok T ρ ∧ (∀ σ, σ ∈ L → Ok T σ) ∧ (∀ i σ, K i = some σ → Ok T σ) ∧ n ≤ 120 ∧ (∀ i, i < n → S i < 256) ∧ L.length ≤ 14 := hk
      obtain ⟨hW, hB⟩ := id ok1
      obtain ⟨hb0, hb3, hb4, hb5, hb6, hb7⟩ := id hB
      obtain ⟨w1, w2, w7, w8, w9, w10, w11, w11', w12, wB, wP⟩ := id hW
      obtain ⟨σ, hσ⟩ : ∃ σ, L.getLast? = some σ := by
        cases h : L.getLast? with
        | none => exact absurd (List.getLast?_eq_none_iff.mp h) (fun q => c5 (by rw [q]; rfl))
        | some σ => exact ⟨σ, rfl⟩
      have hl1 : L.length ≠ 0 := fun e => c5 (by rw [e]; rfl)
      have hat : L[L.length - 1]? = some σ := by rw [← List.getLast?_eq_getElem?]; exact hσ
      have hmem : σ ∈ L := List.mem_of_getElem? hat
      have eA : aUndo (S, n, ρ, L, K) = (0, nI (L.length - 1), (S, n, σ, L.dropLast, K)) := by
        unfold aUndo
        dsimp only
        rw [hσ]
      refine x_aload_n dX5_undo_21 rfl ?_
      refine x_dup dX5_undo_22 rfl ?_
      refine x_get 7 hO dX5_undo_23 f_X5_60 (by first | (simp only [gK_wI]; assumption) | assumption) ⟨by decide, by decide⟩ (v := .int (nI L.length)) (congrArg Value.int vA) ?_
      refine x_iconst (v := nI 1) dX5_undo_26 (by decide) ?_
      refine x_isub dX5_undo_27 ?_
      rw [pk_sub (by omega)]
      refine x_putI 7 hO dX5_undo_28 f_X5_60 (fw_7_11 _) (by first | (simp only [gK_wI]; assumption) | assumption) ⟨by decide, by decide⟩ rfl rfl ?_
      try simp only [wI_wI, gI_wI]
      refine x_aload_n dX5_undo_31 rfl ?_
      refine x_get 7 hO dX5_undo_32 f_X5_25 (by first | (simp only [gK_wI]; assumption) | assumption) ⟨by decide, by decide⟩ (v := .ref (m + 6)) (congrArg va_rf g10) ?_
      refine x_bipush (v := nI 74) dX5_undo_35 (by decide) ?_
      refine x_aload_n dX5_undo_37 rfl ?_
      refine x_get 7 hO dX5_undo_38 f_X5_60 (by first | (simp only [gK_wI]; assumption) | assumption) ⟨by decide, by decide⟩ (v := .int (nI (L.length - 1))) (congrArg Value.int up2_s) ?_
      refine x_imul dX5_undo_41 ?_
      rw [pk_mul]
      refine x_aload_n dX5_undo_42 rfl ?_
      refine x_get 7 hO dX5_undo_43 f_X5_19 (by first | (simp only [gK_wI]; assumption) | assumption) ⟨by decide, by decide⟩ (v := .ref (m + 4)) (congrArg va_rf g8) ?_
      refine x_iconst (v := nI 0) dX5_undo_46 (by decide) ?_
      refine x_bipush (v := nI 74) dX5_undo_47 (by decide) ?_
      refine x_callS (As := [_, _, _, _, _]) hO dX5_undo_49 o_X5_copy s_X5_copy l_X5_63 ⟨by decide, by decide⟩ ⟨by decide, by decide⟩ rfl rfl (Nat.le_of_ble_eq_true rfl) (r_copy (sp := 74 * (L.length - 1)) (dp := 0) (n := 74) hO k6 k4 (by decide) (by decide) (by omega) (by decide) (Or.inl (by omega)) (fun f h1 h2 h3 => ?_))
      dsimp only [Option.toList, List.cons_append, List.nil_append]
      simp only [gI_wI] at h1 h2 h3
      try simp only [wI_wI, gI_wI]
      refine x_aload_n dX5_undo_52 rfl ?_
      refine x_get 7 hO dX5_undo_53 f_X5_60 (by first | (simp only [gK_wI]; assumption) | assumption) ⟨by decide, by decide⟩ (v := .int (nI (L.length - 1))) (congrArg Value.int ((congrFun (h3 m (by omega)) 11).trans up2_s)) ?_
      refine x_iret dX5_undo_56 rfl rfl ?_
      refine hq _ f ?_ (fun a ha => ?_) ?_ ?_
      · rw [eA]
        refine RM_hist (C := wI C f13) hR1 (f := f) ?_ ?_ (fun k hk => ?_) (fun j hj => ?_) (Nat.le_refl _) (ok2 σ hmem) (by rw [List.length_dropLast]; omega) (fun τ ht => ok2 τ (List.dropLast_subset L ht)) (fun i τ hi j hj => ?_)
        · rw [h3 m (by omega), up2_n (by omega)]; rfl
        · rw [h3 m (by omega), up2_s, List.length_dropLast]
        · rw [h3 _ (by omega), up2_f (by omega)]; rfl
        · have e := h1 j hj
          rw [Nat.zero_add] at e
          rw [e, up2_f (by omega)]
          exact vH _ σ hat j hj
        · rw [h3 _ (by omega), up2_f (by omega)]
          rw [List.getElem?_dropLast] at hi
          by_cases c : i < L.length - 1
          · rw [if_pos c] at hi
            exact vH i τ hi j hj
          · rw [if_neg c] at hi
            exact nomatch hi
      · rw [h3 _ (by omega), up2_f (by omega)]
        exact fr13 a (by omega)
      · rw [eA]
        exact (congrFun (h3 m (by omega)) 0).trans ((up2_n (by omega)).trans z13)
      · rw [eA]
        exact fun _ => rfl
    · exact absurd (hr13.trans (if_neg (by decide))) c16
  · simp (disch := omega) only [nI_z] at c5
    refine x_iconst (v := nI 1) dX5_undo_8 (by decide) ?_
    refine x_goto (tgt := 13) dX5_undo_9 (by decide) ?_
    refine x_callV (As := [_]) 7 hO dX5_undo_13 o_X5_refused v_X5_refused l_X5_137 ⟨by decide, by decide⟩ (by first | (simp only [gK_wI]; assumption) | assumption) ⟨by decide, by decide⟩ rfl ⟨by decide, by decide⟩ rfl rfl (Nat.le_of_ble_eq_true rfl) (t_ref hO hR (by decide) (fun r13 f13 hr13 z13 hR1 fr13 => ?_))
    dsimp only [Option.toList, List.cons_append, List.nil_append]
    refine x_if_eq (tgt := 21) dX5_undo_16 (by decide) (fun c16 => ?_) (fun c16 => ?_)
    · exact absurd (c16.symm.trans (hr13.trans (if_pos (by decide)))) (by decide)
    · have p13 := (ite01 hr13).2 c16
      refine x_iconst (v := nI 0) dX5_undo_19 (by decide) ?_
      refine x_iret dX5_undo_20 rfl rfl ?_
      have eA : aUndo (S, n, ρ, L, K) = (1, 0, (S, n, ρ, L, K)) := by
        have hl : L = [] := List.eq_nil_of_length_eq_zero c5
        subst hl
        rfl
      refine hq _ f13 ?_ (fun a ha => fr13 a (by omega)) ?_ ?_
      · rw [eA]
        exact hR1
      · rw [eA]
        exact z13
      · rw [eA]
        exact fun h => absurd h (Nat.succ_ne_zero _)

theorem r_save {G : GT} {C : AH} {Q : QT} {X : XT} {m T n : Nat} {S : Nat → Nat} {ρ : Rw} {L : List Rw} {K : Nat → Option Rw} {w : Int32} (hO : GO G) (hT : T ≤ 40000) (hR : RM T C m (S, n, ρ, L, K)) (hq : ∀ (r : Int32) (f : Nat → Nat → Int32), RM (T) (wI C f) m (aSave (S, n, ρ, L, K) w).2.2 → (∀ a, (a < m ∨ m + 14 ≤ a) → f a = gI C a) → f m 0 = nI (aSave (S, n, ρ, L, K) w).1 → ((aSave (S, n, ρ, L, K) w).1 = 0 → r = (aSave (S, n, ρ, L, K) w).2.1) → Q (some (.int r)) (wI C f)) : Mt G M_X5_save [.ref m, .int w] C Q X := by
  refine Mt_of (by decide) (Nat.le_of_ble_eq_true rfl) ?_
  obtain ⟨hk, hM, hv⟩ := id hR
  obtain ⟨hm0, ⟨g1, g6, g7, g8, g9, g10, g12, g13, g14, g15, g16, g17, g18⟩, k1, k2, k3, k4, k5, k6, k7, k8, k9, k10, k11, k12, k13, hmz⟩ := id hM
  obtain ⟨vn, vS, vN, vA, vH, vK⟩ : gI C m 2 = nI n ∧ (∀ i, i < n → gI C (m + 1) i = nI (S i)) ∧ Vr (gI C) (m + 4) ρ ∧ gI C m 11 = nI L.length ∧ (∀ i σ, L[i]? = some σ → Vo (gI C) (m + 6) (74 * i) σ) ∧ ∀ i, i < 2 → (K i = none → gI C (m + 8) i = 0) ∧ ∀ σ, K i = some σ → gI C (m + 8) i = 1 ∧ Vo (gI C) (m + 7) (74 * i) σ := hv
  obtain ⟨ok1, ok2, ok3, ok4, ok5, ok6⟩ : Ok T ρ ∧ (∀ σ, σ ∈ L → Ok T σ) ∧ (∀ i σ, K i = some σ → Ok T σ) ∧ n ≤ 120 ∧ (∀ i, i < n → S i < 256) ∧ L.length ≤ 14 := hk
  obtain ⟨hW, hB⟩ := id ok1
  obtain ⟨hb0, hb3, hb4, hb5, hb6, hb7⟩ := id hB
  obtain ⟨w1, w2, w7, w8, w9, w10, w11, w11', w12, wB, wP⟩ := id hW
  refine x_aload_n dX5_save_0 rfl ?_
  refine x_iload_n dX5_save_1 rfl ?_
  refine x_i2l dX5_save_2 ?_
  refine x_lconst (v := 0) dX5_save_3 (by decide) ?_
  refine x_lconst (v := 1) dX5_save_4 (by decide) ?_
  refine x_callS (As := [_, _, _]) hO dX5_save_5 o_X5_in s_X5_in l_X5_118 ⟨by decide, by decide⟩ ⟨by decide, by decide⟩ rfl rfl (Nat.le_of_ble_eq_true rfl) (r_inI (a := nI 0) (b := nI 1) hO (by decide) (by decide) (fun r5 hr5 => ?_))
  dsimp only [Option.toList, List.cons_append, List.nil_append]
  refine x_if_eq (tgt := 15) dX5_save_8 (by decide) (fun c8 => ?_) (fun c8 => ?_)
  · have p5 := (ite01 hr5).1 c8
    refine x_iconst (v := nI 1) dX5_save_15 (by decide) ?_
    refine x_callV (As := [_]) 7 hO dX5_save_16 o_X5_refused v_X5_refused l_X5_137 ⟨by decide, by decide⟩ (by first | (simp only [gK_wI]; assumption) | assumption) ⟨by decide, by decide⟩ rfl ⟨by decide, by decide⟩ rfl rfl (Nat.le_of_ble_eq_true rfl) (t_ref hO hR (by decide) (fun r16 f16 hr16 z16 hR1 fr16 => ?_))
    dsimp only [Option.toList, List.cons_append, List.nil_append]
    refine x_if_eq (tgt := 24) dX5_save_19 (by decide) (fun c19 => ?_) (fun c19 => ?_)
    · exact absurd (c19.symm.trans (hr16.trans (if_pos (by decide)))) (by decide)
    · have p16 := (ite01 hr16).2 c19
      refine x_iconst (v := nI 0) dX5_save_22 (by decide) ?_
      refine x_iret dX5_save_23 rfl rfl ?_
      have eA : aSave (S, n, ρ, L, K) w = (1, 0, (S, n, ρ, L, K)) := if_neg p5
      refine hq _ f16 ?_ (fun a ha => fr16 a (by omega)) ?_ ?_
      · rw [eA]
        exact hR1
      · rw [eA]
        exact z16
      · rw [eA]
        exact fun h => absurd h (Nat.succ_ne_zero _)
  · have p5 := (ite01 hr5).2 c8
    refine x_iconst (v := nI 0) dX5_save_11 (by decide) ?_
    refine x_goto (tgt := 16) dX5_save_12 (by decide) ?_
    refine x_callV (As := [_]) 7 hO dX5_save_16 o_X5_refused v_X5_refused l_X5_137 ⟨by decide, by decide⟩ (by first | (simp only [gK_wI]; assumption) | assumption) ⟨by decide, by decide⟩ rfl ⟨by decide, by decide⟩ rfl rfl (Nat.le_of_ble_eq_true rfl) (t_ref hO hR (by decide) (fun r16 f16 hr16 z16 hR1 fr16 => ?_))
    dsimp only [Option.toList, List.cons_append, List.nil_append]
    refine x_if_eq (tgt := 24) dX5_save_19 (by decide) (fun c19 => ?_) (fun c19 => ?_)
    · have p16 := (ite01 hr16).1 c19
      obtain ⟨k, y0, y9, rfl⟩ := (rng (by decide) (by decide)).mp p5
      obtain ⟨hk, hM, hv⟩ := id hR1
      obtain ⟨hm0, ⟨g1, g6, g7, g8, g9, g10, g12, g13, g14, g15, g16, g17, g18⟩, k1, k2, k3, k4, k5, k6, k7, k8, k9, k10, k11, k12, k13, hmz⟩ := id hM
      obtain ⟨vn, vS, vN, vA, vH, vK⟩ : f16 m 2 = nI n ∧ (∀ i, i < n → f16 (m + 1) i = nI (S i)) ∧ Vr (f16) (m + 4) ρ ∧ f16 m 11 = nI L.length ∧ (∀ i σ, L[i]? = some σ → Vo (f16) (m + 6) (74 * i) σ) ∧ ∀ i, i < 2 → (K i = none → f16 (m + 8) i = 0) ∧ ∀ σ, K i = some σ → f16 (m + 8) i = 1 ∧ Vo (f16) (m + 7) (74 * i) σ := hv
      obtain ⟨ok1, ok2, ok3, ok4, ok5, ok6⟩ : Ok T ρ ∧ (∀ σ, σ ∈ L → Ok T σ) ∧ (∀ i σ, K i = some σ → Ok T σ) ∧ n ≤ 120 ∧ (∀ i, i < n → S i < 256) ∧ L.length ≤ 14 := hk
      obtain ⟨hW, hB⟩ := id ok1
      obtain ⟨hb0, hb3, hb4, hb5, hb6, hb7⟩ := id hB
      obtain ⟨w1, w2, w7, w8, w9, w10, w11, w11', w12, wB, wP⟩ := id hW
      have eA : aSave (S, n, ρ, L, K) (nI k) = (0, nI (ρ 0), (S, n, ρ, L, fun i => if i = k then some ρ else K i)) := by
        unfold aSave
        rw [if_pos p5, nI_clamp (by omega)]
      refine x_aload_n dX5_save_24 rfl ?_
      refine x_get 7 hO dX5_save_25 f_X5_19 (by first | (simp only [gK_wI]; assumption) | assumption) ⟨by decide, by decide⟩ (v := .ref (m + 4)) (congrArg va_rf g8) ?_
      refine x_iconst (v := nI 0) dX5_save_28 (by decide) ?_
      refine x_aload_n dX5_save_29 rfl ?_
      refine x_get 7 hO dX5_save_30 f_X5_28 (by first | (simp only [gK_wI]; assumption) | assumption) ⟨by decide, by decide⟩ (v := .ref (m + 7)) (congrArg va_rf g12) ?_
      refine x_bipush (v := nI 74) dX5_save_33 (by decide) ?_
      refine x_iload_n dX5_save_35 rfl ?_
      refine x_imul dX5_save_36 ?_
      rw [pk_mul]
      refine x_bipush (v := nI 74) dX5_save_37 (by decide) ?_
      refine x_callS (As := [_, _, _, _, _]) hO dX5_save_39 o_X5_copy s_X5_copy l_X5_63 ⟨by decide, by decide⟩ ⟨by decide, by decide⟩ rfl rfl (Nat.le_of_ble_eq_true rfl) (r_copy (sp := 0) (dp := 74 * k) (n := 74) hO k4 k7 (by decide) (by decide) (by decide) (by omega) (Or.inl (by omega)) (fun f h1 h2 h3 => ?_))
      dsimp only [Option.toList, List.cons_append, List.nil_append]
      simp only [gI_wI] at h1 h2 h3
      try simp only [wI_wI, gI_wI]
      refine x_aload_n dX5_save_42 rfl ?_
      refine x_get 7 hO dX5_save_43 f_X5_31 (by first | (simp only [gK_wI]; assumption) | assumption) ⟨by decide, by decide⟩ (v := .ref (m + 8)) (congrArg va_rf g13) ?_
      refine x_iload_n dX5_save_46 rfl ?_
      refine x_iconst (v := nI 1) dX5_save_47 (by decide) ?_
      refine x_zast k 2 (Or.inr rfl) hO dX5_save_48 k8.1 rfl k8.2 (by omega) (by decide) ?_
      try simp only [wI_wI, gI_wI]
      refine x_aload_n dX5_save_49 rfl ?_
      refine x_get 7 hO dX5_save_50 f_X5_19 (by first | (simp only [gK_wI]; assumption) | assumption) ⟨by decide, by decide⟩ (v := .ref (m + 4)) (congrArg va_rf g8) ?_
      refine x_iconst (v := nI 0) dX5_save_53 (by decide) ?_
      refine x_row 0 hO dX5_save_54 k4 (Vr_up2 (Vr_to vN (h3 _ (by omega))) (by omega)) rfl (by decide) ?_
      refine x_iret dX5_save_55 rfl rfl ?_
      refine hq _ _ ?_ (fun a ha => ?_) ?_ ?_
      · rw [eA]
        refine ⟨⟨ok1, ok2, fun i τ h => ?_, ok4, ok5, ok6⟩, hM, ?_, fun i hi => ?_, fun j hj => ?_, ?_, fun i τ h j hj => ?_, fun i hi => ?_⟩
        · have h : (if i = k then some ρ else K i) = some τ := h
          by_cases e : i = k
          · rw [if_pos e] at h; cases h; exact ok1
          · rw [if_neg e] at h; exact ok3 i τ h
        · show up2 f (m + 8) k (nI 1) m 2 = nI n
          rw [up2_f (by omega), h3 _ (by omega)]; exact vn
        · show up2 f (m + 8) k (nI 1) (m + 1) i = _
          rw [up2_f (by omega), h3 _ (by omega)]; exact vS i hi
        · show up2 f (m + 8) k (nI 1) (m + 4) j = _
          rw [up2_f (by omega), h3 _ (by omega)]; exact vN j hj
        · show up2 f (m + 8) k (nI 1) m 11 = _
          rw [up2_f (by omega), h3 _ (by omega)]; exact vA
        · show up2 f (m + 8) k (nI 1) (m + 6) (74 * i + j) = _
          rw [up2_f (by omega), h3 _ (by omega)]; exact vH i τ h j hj
        · show ((if i = k then some ρ else K i) = none → up2 f (m + 8) k (nI 1) (m + 8) i = 0) ∧ ∀ σ, (if i = k then some ρ else K i) = some σ → up2 f (m + 8) k (nI 1) (m + 8) i = 1 ∧ Vo (up2 f (m + 8) k (nI 1)) (m + 7) (74 * i) σ
          by_cases e : i = k
          · subst e
            rw [if_pos rfl, up2_s]
            refine ⟨(fun q => nomatch q), fun σ h => ⟨rfl, fun j hj => ?_⟩⟩
            cases h
            rw [up2_f (by omega), h1 j hj, Nat.zero_add]
            exact vN j hj
          · rw [if_neg e, up2_n (fun h => e h.2), h3 (m + 8) (by omega)]
            refine ⟨(vK i hi).1, fun σ h => ⟨((vK i hi).2 σ h).1, fun j hj => ?_⟩⟩
            rw [up2_f (by omega), h2 _ (by omega)]
            exact ((vK i hi).2 σ h).2 j hj
      · rw [up2_f (by omega), h3 _ (by omega)]
        exact fr16 a (by omega)
      · rw [eA]
        exact (congrFun (up2_f (by omega)) 0).trans ((congrFun (h3 m (by omega)) 0).trans z16)
      · rw [eA]
        exact fun _ => rfl
    · exact absurd (hr16.trans (if_neg (by decide))) c19

theorem r_restore {G : GT} {C : AH} {Q : QT} {X : XT} {m T n : Nat} {S : Nat → Nat} {ρ : Rw} {L : List Rw} {K : Nat → Option Rw} {w : Int32} (hO : GO G) (hT : T ≤ 40000) (hR : RM T C m (S, n, ρ, L, K)) (hq : ∀ (r : Int32) (f : Nat → Nat → Int32), RM (T) (wI C f) m (aRestore (S, n, ρ, L, K) w).2.2 → (∀ a, (a < m ∨ m + 14 ≤ a) → f a = gI C a) → f m 0 = nI (aRestore (S, n, ρ, L, K) w).1 → ((aRestore (S, n, ρ, L, K) w).1 = 0 → r = (aRestore (S, n, ρ, L, K) w).2.1) → Q (some (.int r)) (wI C f)) : Mt G M_X5_restore [.ref m, .int w] C Q X := by
  refine Mt_of (by decide) (Nat.le_of_ble_eq_true rfl) ?_
  obtain ⟨hk, hM, hv⟩ := id hR
  obtain ⟨hm0, ⟨g1, g6, g7, g8, g9, g10, g12, g13, g14, g15, g16, g17, g18⟩, k1, k2, k3, k4, k5, k6, k7, k8, k9, k10, k11, k12, k13, hmz⟩ := id hM
  obtain ⟨vn, vS, vN, vA, vH, vK⟩ : gI C m 2 = nI n ∧ (∀ i, i < n → gI C (m + 1) i = nI (S i)) ∧ Vr (gI C) (m + 4) ρ ∧ gI C m 11 = nI L.length ∧ (∀ i σ, L[i]? = some σ → Vo (gI C) (m + 6) (74 * i) σ) ∧ ∀ i, i < 2 → (K i = none → gI C (m + 8) i = 0) ∧ ∀ σ, K i = some σ → gI C (m + 8) i = 1 ∧ Vo (gI C) (m + 7) (74 * i) σ := hv
  obtain ⟨ok1, ok2, ok3, ok4, ok5, ok6⟩ : Ok T ρ ∧ (∀ σ, σ ∈ L → Ok T σ) ∧ (∀ i σ, K i = some σ → Ok T σ) ∧ n ≤ 120 ∧ (∀ i, i < n → S i < 256) ∧ L.length ≤ 14 := hk
  obtain ⟨hW, hB⟩ := id ok1
  obtain ⟨hb0, hb3, hb4, hb5, hb6, hb7⟩ := id hB
  obtain ⟨w1, w2, w7, w8, w9, w10, w11, w11', w12, wB, wP⟩ := id hW
  refine x_aload_n dX5_restore_0 rfl ?_
  refine x_iload_n dX5_restore_1 rfl ?_
  refine x_i2l dX5_restore_2 ?_
  refine x_lconst (v := 0) dX5_restore_3 (by decide) ?_
  refine x_lconst (v := 1) dX5_restore_4 (by decide) ?_
  refine x_callS (As := [_, _, _]) hO dX5_restore_5 o_X5_in s_X5_in l_X5_118 ⟨by decide, by decide⟩ ⟨by decide, by decide⟩ rfl rfl (Nat.le_of_ble_eq_true rfl) (r_inI (a := nI 0) (b := nI 1) hO (by decide) (by decide) (fun r5 hr5 => ?_))
  dsimp only [Option.toList, List.cons_append, List.nil_append]
  refine x_if_ne (tgt := 15) dX5_restore_8 (by decide) (fun c8 => ?_) (fun c8 => ?_)
  · have p5 := (ite01 hr5).2 c8
    obtain ⟨k, y0, y9, rfl⟩ := (rng (by decide) (by decide)).mp p5
    refine x_aload_n dX5_restore_15 rfl ?_
    refine x_get 7 hO dX5_restore_16 f_X5_31 (by first | (simp only [gK_wI]; assumption) | assumption) ⟨by decide, by decide⟩ (v := .ref (m + 8)) (congrArg va_rf g13) ?_
    refine x_iload_n dX5_restore_19 rfl ?_
    refine x_zald k 2 hO dX5_restore_20 k8.1 rfl k8.2 (by omega) (by decide) (fun z20 => ?_)
    refine x_if_eq (tgt := 28) dX5_restore_21 (by decide) (fun c21 => ?_) (fun c21 => ?_)
    · have hσ : K k = none := by
        cases e : K k with
        | none => rfl
        | some σ => exact absurd (((vK k (by omega)).2 σ e).1.symm.trans c21) (by decide)
      refine x_iconst (v := nI 2) dX5_restore_28 (by decide) ?_
      refine x_callV (As := [_]) 7 hO dX5_restore_29 o_X5_refused v_X5_refused l_X5_137 ⟨by decide, by decide⟩ (by first | (simp only [gK_wI]; assumption) | assumption) ⟨by decide, by decide⟩ rfl ⟨by decide, by decide⟩ rfl rfl (Nat.le_of_ble_eq_true rfl) (t_ref hO hR (by decide) (fun r29 f29 hr29 z29 hR1 fr29 => ?_))
      dsimp only [Option.toList, List.cons_append, List.nil_append]
      refine x_if_eq (tgt := 37) dX5_restore_32 (by decide) (fun c32 => ?_) (fun c32 => ?_)
      · exact absurd (c32.symm.trans (hr29.trans (if_pos (by decide)))) (by decide)
      · have p29 := (ite01 hr29).2 c32
        refine x_iconst (v := nI 0) dX5_restore_35 (by decide) ?_
        refine x_iret dX5_restore_36 rfl rfl ?_
        have eA : aRestore (S, n, ρ, L, K) (nI k) = (2, 0, (S, n, ρ, L, K)) := by
          unfold aRestore
          rw [if_pos p5, nI_clamp (by omega)]
          dsimp only
          rw [hσ]
        refine hq _ f29 ?_ (fun a ha => fr29 a (by omega)) ?_ ?_
        · rw [eA]
          exact hR1
        · rw [eA]
          exact z29
        · rw [eA]
          exact fun h => absurd h (Nat.succ_ne_zero _)
    · obtain ⟨σ, hσ⟩ : ∃ σ, K k = some σ := by
        cases e : K k with
        | none => exact absurd ((vK k (by omega)).1 e) c21
        | some σ => exact ⟨σ, rfl⟩
      refine x_iconst (v := nI 0) dX5_restore_24 (by decide) ?_
      refine x_goto (tgt := 29) dX5_restore_25 (by decide) ?_
      refine x_callV (As := [_]) 7 hO dX5_restore_29 o_X5_refused v_X5_refused l_X5_137 ⟨by decide, by decide⟩ (by first | (simp only [gK_wI]; assumption) | assumption) ⟨by decide, by decide⟩ rfl ⟨by decide, by decide⟩ rfl rfl (Nat.le_of_ble_eq_true rfl) (t_ref hO hR (by decide) (fun r29 f29 hr29 z29 hR1 fr29 => ?_))
      dsimp only [Option.toList, List.cons_append, List.nil_append]
      refine x_if_eq (tgt := 37) dX5_restore_32 (by decide) (fun c32 => ?_) (fun c32 => ?_)
      · have p29 := (ite01 hr29).1 c32
        have hmem := ok3 k σ hσ
        obtain ⟨hk, hM, hv⟩ := id hR1
        obtain ⟨hm0, ⟨g1, g6, g7, g8, g9, g10, g12, g13, g14, g15, g16, g17, g18⟩, k1, k2, k3, k4, k5, k6, k7, k8, k9, k10, k11, k12, k13, hmz⟩ := id hM
        obtain ⟨vn, vS, vN, vA, vH, vK⟩ : f29 m 2 = nI n ∧ (∀ i, i < n → f29 (m + 1) i = nI (S i)) ∧ Vr (f29) (m + 4) ρ ∧ f29 m 11 = nI L.length ∧ (∀ i σ, L[i]? = some σ → Vo (f29) (m + 6) (74 * i) σ) ∧ ∀ i, i < 2 → (K i = none → f29 (m + 8) i = 0) ∧ ∀ σ, K i = some σ → f29 (m + 8) i = 1 ∧ Vo (f29) (m + 7) (74 * i) σ := hv
        obtain ⟨ok1, ok2, ok3, ok4, ok5, ok6⟩ : Ok T ρ ∧ (∀ σ, σ ∈ L → Ok T σ) ∧ (∀ i σ, K i = some σ → Ok T σ) ∧ n ≤ 120 ∧ (∀ i, i < n → S i < 256) ∧ L.length ≤ 14 := hk
        obtain ⟨hW, hB⟩ := id ok1
        obtain ⟨hb0, hb3, hb4, hb5, hb6, hb7⟩ := id hB
        obtain ⟨w1, w2, w7, w8, w9, w10, w11, w11', w12, wB, wP⟩ := id hW
        have eA : aRestore (S, n, ρ, L, K) (nI k) = (0, nI (σ 0), (S, n, σ, [], K)) := by
          unfold aRestore
          rw [if_pos p5, nI_clamp (by omega)]
          dsimp only
          rw [hσ]
        refine x_aload_n dX5_restore_37 rfl ?_
        refine x_get 7 hO dX5_restore_38 f_X5_28 (by first | (simp only [gK_wI]; assumption) | assumption) ⟨by decide, by decide⟩ (v := .ref (m + 7)) (congrArg va_rf g12) ?_
        refine x_bipush (v := nI 74) dX5_restore_41 (by decide) ?_
        refine x_iload_n dX5_restore_43 rfl ?_
        refine x_imul dX5_restore_44 ?_
        rw [pk_mul]
        refine x_aload_n dX5_restore_45 rfl ?_
        refine x_get 7 hO dX5_restore_46 f_X5_19 (by first | (simp only [gK_wI]; assumption) | assumption) ⟨by decide, by decide⟩ (v := .ref (m + 4)) (congrArg va_rf g8) ?_
        refine x_iconst (v := nI 0) dX5_restore_49 (by decide) ?_
        refine x_bipush (v := nI 74) dX5_restore_50 (by decide) ?_
        refine x_callS (As := [_, _, _, _, _]) hO dX5_restore_52 o_X5_copy s_X5_copy l_X5_63 ⟨by decide, by decide⟩ ⟨by decide, by decide⟩ rfl rfl (Nat.le_of_ble_eq_true rfl) (r_copy (sp := 74 * k) (dp := 0) (n := 74) hO k7 k4 (by decide) (by decide) (by omega) (by decide) (Or.inl (by omega)) (fun f h1 h2 h3 => ?_))
        dsimp only [Option.toList, List.cons_append, List.nil_append]
        simp only [gI_wI] at h1 h2 h3
        try simp only [wI_wI, gI_wI]
        have vN2 : Vr f (m + 4) σ := fun j hj => by
          have e := h1 j hj
          rw [Nat.zero_add] at e
          rw [e]
          exact ((vK k (by omega)).2 σ hσ).2 j hj
        refine x_aload_n dX5_restore_55 rfl ?_
        refine x_iconst (v := nI 0) dX5_restore_56 (by decide) ?_
        refine x_putI 7 hO dX5_restore_57 f_X5_60 (fw_7_11 _) (by first | (simp only [gK_wI]; assumption) | assumption) ⟨by decide, by decide⟩ rfl rfl ?_
        try simp only [wI_wI, gI_wI]
        refine x_aload_n dX5_restore_60 rfl ?_
        refine x_get 7 hO dX5_restore_61 f_X5_19 (by first | (simp only [gK_wI]; assumption) | assumption) ⟨by decide, by decide⟩ (v := .ref (m + 4)) (congrArg va_rf g8) ?_
        refine x_iconst (v := nI 0) dX5_restore_64 (by decide) ?_
        refine x_row 0 hO dX5_restore_65 k4 (Vr_up2 vN2 (by omega)) rfl (by decide) ?_
        refine x_iret dX5_restore_66 rfl rfl ?_
        refine hq _ _ ?_ (fun a ha => ?_) ?_ ?_
        · rw [eA]
          refine RM_hist (C := wI C f29) hR1 (f := up2 f m 11 (nI 0)) ?_ up2_s (fun k hk => ?_) (Vr_up2 vN2 (by omega)) (Nat.le_refl _) hmem (by decide) (fun τ ht => absurd ht (by simp)) (fun i τ hi => absurd hi (by simp))
          · rw [up2_n (by omega), h3 m (by omega)]; rfl
          · rw [up2_f (by omega), h3 _ (by omega)]; rfl
        · rw [up2_f (by omega), h3 _ (by omega)]
          exact fr29 a (by omega)
        · rw [eA]
          exact (up2_n (by omega)).trans ((congrFun (h3 m (by omega)) 0).trans z29)
        · rw [eA]
          exact fun _ => rfl
      · exact absurd (hr29.trans (if_neg (by decide))) c32
  · have p5 := (ite01 hr5).1 c8
    refine x_iconst (v := nI 1) dX5_restore_11 (by decide) ?_
    refine x_goto (tgt := 29) dX5_restore_12 (by decide) ?_
    refine x_callV (As := [_]) 7 hO dX5_restore_29 o_X5_refused v_X5_refused l_X5_137 ⟨by decide, by decide⟩ (by first | (simp only [gK_wI]; assumption) | assumption) ⟨by decide, by decide⟩ rfl ⟨by decide, by decide⟩ rfl rfl (Nat.le_of_ble_eq_true rfl) (t_ref hO hR (by decide) (fun r29 f29 hr29 z29 hR1 fr29 => ?_))
    dsimp only [Option.toList, List.cons_append, List.nil_append]
    refine x_if_eq (tgt := 37) dX5_restore_32 (by decide) (fun c32 => ?_) (fun c32 => ?_)
    · exact absurd (c32.symm.trans (hr29.trans (if_pos (by decide)))) (by decide)
    · have p29 := (ite01 hr29).2 c32
      refine x_iconst (v := nI 0) dX5_restore_35 (by decide) ?_
      refine x_iret dX5_restore_36 rfl rfl ?_
      have eA : aRestore (S, n, ρ, L, K) w = (1, 0, (S, n, ρ, L, K)) := if_neg p5
      refine hq _ f29 ?_ (fun a ha => fr29 a (by omega)) ?_ ?_
      · rw [eA]
        exact hR1
      · rw [eA]
        exact z29
      · rw [eA]
        exact fun h => absurd h (Nat.succ_ne_zero _)

