/-! the reference: scripts, simulations *)-/
theorem p10 {k : Nat} : 10 ^ (5 * k) = 100000 ^ k := by rw [Nat.pow_mul]
theorem p10_lt {k : Nat} (h : k ≤ 3) : 100000 ^ k < 2 ^ 63 := by
  rcases (show k = 0 ∨ k = 1 ∨ k = 2 ∨ k = 3 by omega) with rfl | rfl | rfl | rfl <;> decide
theorem scr_ok {v : Int64} {k : Nat} (hk : k ≤ 3) : (0 ≤ v ∧ v ≤ lN (100000 ^ k - 1)) ↔ (¬ v < 0 ∧ v.toNatClampNeg / 100000 ^ k = 0) := by
  have hp := p10_lt hk
  have h1 : 0 < 100000 ^ k := Nat.pow_pos (by decide)
  by_cases c : v < 0
  · exact ⟨fun q => absurd q.1 (Int64.not_le.mpr c), fun q => absurd c q.1⟩
  · obtain ⟨z, hz, rfl⟩ := pk_lOf c
    rw [lN_clamp hz, pk_lLE hz (by omega)]
    constructor
    · intro q
      exact ⟨c, Nat.div_eq_of_lt (by omega)⟩
    · intro q
      have := Nat.lt_of_div_eq_zero h1 q.2
      exact ⟨Int64.not_lt.mp c, by omega⟩
theorem r_runScript {G : GT} {C : AH} {Q : QT} {X : XT} {m T n : Nat} {S : Nat → Nat} {ρ : Rw} {L : List Rw} {K : Nat → Option Rw} {w : Int32} {v : Int64} (hO : GO G) (hT : T ≤ 40000) (hR : RM T C m (S, n, ρ, L, K)) (hq : ∀ (r : Int32) (f : Nat → Nat → Int32), RM (T) (wI C f) m (aScript (S, n, ρ, L, K) w v).2.2 → (∀ a, (a < m ∨ m + 14 ≤ a) → f a = gI C a) → f m 0 = nI (aScript (S, n, ρ, L, K) w v).1 → ((aScript (S, n, ρ, L, K) w v).1 = 0 → r = (aScript (S, n, ρ, L, K) w v).2.1) → Q (some (.int r)) (wI C f)) : Mt G M_X5_runScript [.ref m, .int w, .long v] C Q X := by
  refine Mt_of (by decide) (Nat.le_of_ble_eq_true rfl) ?_
  obtain ⟨hk, hM, hv⟩ := id hR
  obtain ⟨hm0, ⟨g1, g6, g7, g8, g9, g10, g12, g13, g14, g15, g16, g17, g18⟩, k1, k2, k3, k4, k5, k6, k7, k8, k9, k10, k11, k12, k13, hmz⟩ := id hM
  obtain ⟨vn, vS, vN, vA, vH, vK⟩ : gI C m 2 = nI n ∧ (∀ i, i < n → gI C (m + 1) i = nI (S i)) ∧ Vr (gI C) (m + 4) ρ ∧ gI C m 11 = nI L.length ∧ (∀ i σ, L[i]? = some σ → Vo (gI C) (m + 6) (74 * i) σ) ∧ ∀ i, i < 2 → (K i = none → gI C (m + 8) i = 0) ∧ ∀ σ, K i = some σ → gI C (m + 8) i = 1 ∧ Vo (gI C) (m + 7) (74 * i) σ := hv
  obtain ⟨ok1, ok2, ok3, ok4, ok5, ok6⟩ : Ok T ρ ∧ (∀ σ, σ ∈ L → Ok T σ) ∧ (∀ i σ, K i = some σ → Ok T σ) ∧ n ≤ 120 ∧ (∀ i, i < n → S i < 256) ∧ L.length ≤ 14 := hk
  obtain ⟨hW, hB⟩ := id ok1
  obtain ⟨hb0, hb3, hb4, hb5, hb6, hb7⟩ := id hB
  obtain ⟨w1, w2, w7, w8, w9, w10, w11, w11', w12, wB, wP⟩ := id hW
  refine x_iload_n dX5_runScript_0 rfl ?_
  refine x_i2l dX5_runScript_1 ?_
  refine x_lconst (v := 1) dX5_runScript_2 (by decide) ?_
  refine x_ldc2 hO.1 dX5_runScript_3 k_X5_275 ?_
  refine x_callS (As := [_, _, _]) hO dX5_runScript_6 o_X5_in s_X5_in l_X5_118 ⟨by decide, by decide⟩ ⟨by decide, by decide⟩ rfl rfl (Nat.le_of_ble_eq_true rfl) (r_inI (a := nI 1) (b := nI 3) hO (by decide) (by decide) (fun r6 hr6 => ?_))
  dsimp only [Option.toList, List.cons_append, List.nil_append]
  refine x_istore dX5_runScript_9 (by decide) ?_
  by_cases p6 : nI 1 ≤ w ∧ w ≤ nI 3
  · skip
    refine x_aload_n dX5_runScript_11 rfl ?_
    refine x_iload dX5_runScript_12 rfl ?_
    refine x_if_eq (tgt := 46) dX5_runScript_14 (by decide) (fun c14 => ?_) (fun c14 => ?_)
    · exact absurd (hr6.symm.trans c14) (by rw [if_pos p6]; decide)
    · refine x_lload_n dX5_runScript_17 rfl ?_
      refine x_lconst (v := 0) dX5_runScript_18 (by decide) ?_
      refine x_iload dX5_runScript_19 rfl ?_
      refine x_if_eq (tgt := 30) dX5_runScript_21 (by decide) (fun c21 => ?_) (fun c21 => ?_)
      · exact absurd (hr6.symm.trans c21) (by rw [if_pos p6]; decide)
      · obtain ⟨k, y0, y9, rfl⟩ := (rng (by decide) (by decide)).mp p6
        refine x_iconst (v := nI 5) dX5_runScript_24 (by decide) ?_
        refine x_iload_n dX5_runScript_25 rfl ?_
        refine x_imul dX5_runScript_26 ?_
        refine x_goto (tgt := 31) dX5_runScript_27 (by decide) ?_
        rw [pk_mul]
        refine x_callS (As := [_]) hO dX5_runScript_31 o_X5_tenTo s_X5_tenTo l_X5_232 ⟨by decide, by decide⟩ ⟨by decide, by decide⟩ rfl rfl (Nat.le_of_ble_eq_true rfl) (r_tenTo hO (by omega) ?_)
        dsimp only [Option.toList, List.cons_append, List.nil_append]
        rw [p10]
        refine x_lconst (v := 1) dX5_runScript_34 (by decide) ?_
        refine x_lsub dX5_runScript_35 ?_
        rw [show (1 : Int64) = lN 1 from rfl, lN_sub (Nat.pow_pos (by decide))]
        refine x_callS (As := [_, _, _]) hO dX5_runScript_36 o_X5_in s_X5_in l_X5_118 ⟨by decide, by decide⟩ ⟨by decide, by decide⟩ rfl rfl (Nat.le_of_ble_eq_true rfl) (r_in hO (fun r36 hr36 => ?_))
        dsimp only [Option.toList, List.cons_append, List.nil_append]
        refine x_if_eq (tgt := 46) dX5_runScript_39 (by decide) (fun c39 => ?_) (fun c39 => ?_)
        · have p36 := (ite01 hr36).1 c39
          refine x_iconst (v := nI 1) dX5_runScript_46 (by decide) ?_
          refine x_callV (As := [_]) 7 hO dX5_runScript_47 o_X5_refused v_X5_refused l_X5_137 ⟨by decide, by decide⟩ (by first | (simp only [gK_wI]; assumption) | assumption) ⟨by decide, by decide⟩ rfl ⟨by decide, by decide⟩ rfl rfl (Nat.le_of_ble_eq_true rfl) (t_ref hO hR (by decide) (fun r47 f47 hr47 z47 hR1 fr47 => ?_))
          dsimp only [Option.toList, List.cons_append, List.nil_append]
          refine x_if_eq (tgt := 55) dX5_runScript_50 (by decide) (fun c50 => ?_) (fun c50 => ?_)
          · exact absurd (c50.symm.trans (hr47.trans (if_pos (by decide)))) (by decide)
          · have p47 := (ite01 hr47).2 c50
            refine x_iconst (v := nI 0) dX5_runScript_53 (by decide) ?_
            refine x_iret dX5_runScript_54 rfl rfl ?_
            have eA : aScript (S, n, ρ, L, K) (nI k) v = (1, 0, (S, n, ρ, L, K)) := by
              unfold aScript
              first
                | exact if_neg p6
                | (rw [if_pos p6]; exact if_neg (fun q => p36 ((scr_ok (by omega)).mpr (by rw [nI_clamp (by omega)] at q; exact q))))
            refine hq _ f47 ?_ (fun a ha => fr47 a (by omega)) ?_ ?_
            · rw [eA]
              exact hR1
            · rw [eA]
              exact z47
            · rw [eA]
              exact fun h => absurd h (Nat.succ_ne_zero _)
        · have p36 := (ite01 hr36).2 c39
          refine x_iconst (v := nI 0) dX5_runScript_42 (by decide) ?_
          refine x_goto (tgt := 47) dX5_runScript_43 (by decide) ?_
          refine x_callV (As := [_]) 7 hO dX5_runScript_47 o_X5_refused v_X5_refused l_X5_137 ⟨by decide, by decide⟩ (by first | (simp only [gK_wI]; assumption) | assumption) ⟨by decide, by decide⟩ rfl ⟨by decide, by decide⟩ rfl rfl (Nat.le_of_ble_eq_true rfl) (t_ref hO hR (by decide) (fun r47 f47 hr47 z47 hR1 fr47 => ?_))
          dsimp only [Option.toList, List.cons_append, List.nil_append]
          refine x_if_eq (tgt := 55) dX5_runScript_50 (by decide) (fun c50 => ?_) (fun c50 => ?_)
          · have p47 := (ite01 hr47).1 c50
            obtain ⟨hv0, hvz⟩ := (scr_ok (by omega)).mp p36
            obtain ⟨z, hz, rfl⟩ := pk_lOf hv0
            rw [lN_clamp hz] at hvz
            obtain ⟨hk, hM, hv⟩ := id hR1
            obtain ⟨hm0, ⟨g1, g6, g7, g8, g9, g10, g12, g13, g14, g15, g16, g17, g18⟩, k1, k2, k3, k4, k5, k6, k7, k8, k9, k10, k11, k12, k13, hmz⟩ := id hM
            obtain ⟨vn, vS, vN, vA, vH, vK⟩ : f47 m 2 = nI n ∧ (∀ i, i < n → f47 (m + 1) i = nI (S i)) ∧ Vr (f47) (m + 4) ρ ∧ f47 m 11 = nI L.length ∧ (∀ i σ, L[i]? = some σ → Vo (f47) (m + 6) (74 * i) σ) ∧ ∀ i, i < 2 → (K i = none → f47 (m + 8) i = 0) ∧ ∀ σ, K i = some σ → f47 (m + 8) i = 1 ∧ Vo (f47) (m + 7) (74 * i) σ := hv
            obtain ⟨ok1, ok2, ok3, ok4, ok5, ok6⟩ : Ok T ρ ∧ (∀ σ, σ ∈ L → Ok T σ) ∧ (∀ i σ, K i = some σ → Ok T σ) ∧ n ≤ 120 ∧ (∀ i, i < n → S i < 256) ∧ L.length ≤ 14 := hk
            obtain ⟨hW, hB⟩ := id ok1
            obtain ⟨hb0, hb3, hb4, hb5, hb6, hb7⟩ := id hB
            obtain ⟨w1, w2, w7, w8, w9, w10, w11, w11', w12, wB, wP⟩ := id hW
            have eA : aScript (S, n, ρ, L, K) (nI k) (lN z) = (0, scS z k k 0 ρ, (S, n, ρ, L, K)) := by
              unfold aScript
              rw [if_pos p6, nI_clamp (show k < 2 ^ 31 by omega), lN_clamp hz]
              exact if_pos ⟨hv0, hvz⟩
            refine x_aload_n dX5_runScript_55 rfl ?_
            refine x_callV (As := []) 7 hO dX5_runScript_56 o_X5_tryIt v_X5_tryIt l_X5_215 ⟨by decide, by decide⟩ (by first | (simp only [gK_wI]; assumption) | assumption) ⟨by decide, by decide⟩ rfl ⟨by decide, by decide⟩ rfl rfl (Nat.le_of_ble_eq_true rfl) (r_tryIt hO hT hR1 (fun f56 v56 r56 => ?_))
            dsimp only [Option.toList, List.cons_append, List.nil_append]
            refine x_iconst (v := nI 0) dX5_runScript_59 (by decide) ?_
            refine x_istore dX5_runScript_60 (by decide) ?_
            have loop : ∀ (m9 i : Nat) (f : Nat → Nat → Int32) (τ : Rw), k - i = m9 → i ≤ k → Vr f (m + 5) τ → Ok (T + 48 * i) τ → (∀ a, (a < m + 2 ∨ a = m + 4 ∨ (m + 6 ≤ a ∧ a ≤ m + 8) ∨ m + 14 ≤ a) → f a = f47 a) → scS z k k 0 ρ = scS z k (k - i) i τ → Ex G M_X5_runScript Q X (mC M_X5_runScript) (mS M_X5_runScript) 62 [(0, .ref m), (1, .int (nI k)), (2, .long (lN z)), (5, .int (nI i))] [] (wI C f) := by
              intro m9
              induction m9 using Nat.strongRecOn with
              | _ m9 ih =>
              intro i f τ hm9 hi hVf hkt SF hE
              refine x_iload dX5_runScript_62 rfl ?_
              refine x_iload_n dX5_runScript_64 rfl ?_
              refine x_icmp_ge (tgt := 102) dX5_runScript_65 (by decide) (fun c65 => ?_) (fun c65 => ?_)
              · simp (disch := omega) only [nI_leI] at c65
                refine x_iconst (v := (-1)) dX5_runScript_102 (by decide) ?_
                refine x_iret dX5_runScript_103 rfl rfl ?_
                have : i = k := by omega
                subst this
                refine hq _ f ?_ (fun a ha => (SF a (by omega)).trans (fr47 a (by omega))) ?_ ?_
                · rw [eA]
                  exact RM_scr hR1 SF
                · rw [eA]
                  exact (congrFun (SF m (by omega)) 0).trans z47
                · rw [eA]
                  exact (by rw [hE, Nat.sub_self]; exact fun _ => rfl)
              · simp (disch := omega) only [nI_leI] at c65
                refine x_aload_n dX5_runScript_68 rfl ?_
                refine x_lload_n dX5_runScript_69 rfl ?_
                refine x_iconst (v := nI 5) dX5_runScript_70 (by decide) ?_
                refine x_iload_n dX5_runScript_71 rfl ?_
                refine x_iconst (v := nI 1) dX5_runScript_72 (by decide) ?_
                refine x_isub dX5_runScript_73 ?_
                rw [pk_sub (by omega)]
                refine x_iload dX5_runScript_74 rfl ?_
                refine x_isub dX5_runScript_76 ?_
                rw [pk_sub (by omega)]
                refine x_imul dX5_runScript_77 ?_
                rw [pk_mul]
                refine x_callS (As := [_]) hO dX5_runScript_78 o_X5_tenTo s_X5_tenTo l_X5_232 ⟨by decide, by decide⟩ ⟨by decide, by decide⟩ rfl rfl (Nat.le_of_ble_eq_true rfl) (r_tenTo hO (by omega) ?_)
                dsimp only [Option.toList, List.cons_append, List.nil_append]
                rw [p10]
                refine x_ldiv dX5_runScript_81 (fun q => by have h1 := Nat.pow_pos (n := k - 1 - i) (show 0 < 100000 by decide); have := (pk_lEQ (p10_lt (by omega)) (show 0 < 2 ^ 63 by decide)).mp (show lN (100000 ^ (k - 1 - i)) = lN 0 from q); omega) ?_
                rw [pk_lDiv hz (Nat.pow_pos (by decide)) (p10_lt (by omega))]
                refine x_ldc2 hO.1 dX5_runScript_82 k_X5_298 ?_
                refine x_lrem dX5_runScript_85 (by decide) ?_
                rw [show (100000 : Int64) = lN 100000 from rfl, pk_lRem (Nat.lt_of_le_of_lt (Nat.div_le_self _ _) hz) (by decide) (by decide)]
                refine x_l2i dX5_runScript_86 ?_
                rw [lN_i]
                refine x_callV (As := [_]) 7 hO dX5_runScript_87 o_X5_does v_X5_does l_X5_300 ⟨by decide, by decide⟩ (by first | (simp only [gK_wI]; assumption) | assumption) ⟨by decide, by decide⟩ rfl ⟨by decide, by decide⟩ rfl rfl (Nat.le_of_ble_eq_true rfl) (r_does (C := wI C f) (T := T + 48 * i) (g := z / 100000 ^ (k - 1 - i) % 100000) hO hM hVf hkt (by omega) (Nat.mod_lt _ (by decide)) (fun r87 f87 hr87 v87 w87 => ?_))
                dsimp only [Option.toList, List.cons_append, List.nil_append]
                simp only [gI_wI] at w87
                try simp only [wI_wI, gI_wI]
                refine x_if_ne (tgt := 96) dX5_runScript_90 (by decide) (fun c90 => ?_) (fun c90 => ?_)
                · have p87 := (ite01 hr87).2 c90
                  refine x_iinc (v := nI 1) dX5_runScript_96 rfl (by decide) (by decide) ?_
                  refine x_goto (tgt := 62) dX5_runScript_99 (by decide) ?_
                  refine x_ls [(0, .ref m), (1, .int (nI k)), (2, .long (lN z)), (5, .int (nI (i + 1)))] ⟨rfl, rfl, rfl, (by rw [← nI_add]; rfl), trivial⟩ ?_
                  refine ih (m9 - 1) (by omega) (i + 1) f87 _ (by omega) (by omega) v87 (Ok_mono (Ok_does hkt) (by omega)) (fun a ha => (w87 a ha).trans (SF a ha)) ?_
                  rw [hE, show k - i = k - (i + 1) + 1 by omega]
                  exact if_pos p87
                · have p87 := (ite01 hr87).1 c90
                  refine x_iload dX5_runScript_93 rfl ?_
                  refine x_iret dX5_runScript_95 rfl rfl ?_
                  have hv : scS z k k 0 ρ = nI i := by
                    rw [hE, show k - i = k - (i + 1) + 1 by omega]
                    exact if_neg p87
                  have SF : ∀ a, (a < m + 2 ∨ a = m + 4 ∨ (m + 6 ≤ a ∧ a ≤ m + 8) ∨ m + 14 ≤ a) → f87 a = f47 a := fun a ha => (w87 a ha).trans (SF a ha)
                  refine hq _ f87 ?_ (fun a ha => (SF a (by omega)).trans (fr47 a (by omega))) ?_ ?_
                  · rw [eA]
                    exact RM_scr hR1 SF
                  · rw [eA]
                    exact (congrFun (SF m (by omega)) 0).trans z47
                  · rw [eA]
                    exact (by rw [hv]; exact fun _ => rfl)
            simp only [gI_wI] at r56
            try simp only [wI_wI, gI_wI]
            refine x_ls [(0, .ref m), (1, .int (nI k)), (2, .long (lN z)), (5, .int (nI 0))] ⟨rfl, rfl, rfl, rfl, trivial⟩ ?_
            exact loop _ 0 f56 ρ rfl (Nat.zero_le _) v56 ok1 (fun a ha => r56 a (by omega)) rfl
          · exact absurd (hr47.trans (if_neg (by decide))) c50
  · skip
    refine x_aload_n dX5_runScript_11 rfl ?_
    refine x_iload dX5_runScript_12 rfl ?_
    refine x_if_eq (tgt := 46) dX5_runScript_14 (by decide) (fun c14 => ?_) (fun c14 => ?_)
    · refine x_iconst (v := nI 1) dX5_runScript_46 (by decide) ?_
      refine x_callV (As := [_]) 7 hO dX5_runScript_47 o_X5_refused v_X5_refused l_X5_137 ⟨by decide, by decide⟩ (by first | (simp only [gK_wI]; assumption) | assumption) ⟨by decide, by decide⟩ rfl ⟨by decide, by decide⟩ rfl rfl (Nat.le_of_ble_eq_true rfl) (t_ref hO hR (by decide) (fun r47 f47 hr47 z47 hR1 fr47 => ?_))
      dsimp only [Option.toList, List.cons_append, List.nil_append]
      refine x_if_eq (tgt := 55) dX5_runScript_50 (by decide) (fun c50 => ?_) (fun c50 => ?_)
      · exact absurd (c50.symm.trans (hr47.trans (if_pos (by decide)))) (by decide)
      · have p47 := (ite01 hr47).2 c50
        refine x_iconst (v := nI 0) dX5_runScript_53 (by decide) ?_
        refine x_iret dX5_runScript_54 rfl rfl ?_
        have eA : aScript (S, n, ρ, L, K) w v = (1, 0, (S, n, ρ, L, K)) := by
          unfold aScript
          first
            | exact if_neg p6
            | (rw [if_pos p6]; exact if_neg (fun q => p36 ((scr_ok (by omega)).mpr (by rw [nI_clamp (by omega)] at q; exact q))))
        refine hq _ f47 ?_ (fun a ha => fr47 a (by omega)) ?_ ?_
        · rw [eA]
          exact hR1
        · rw [eA]
          exact z47
        · rw [eA]
          exact fun h => absurd h (Nat.succ_ne_zero _)
    · exact absurd (c14) (by rw [hr6, if_neg p6]; exact fun q => q rfl)

theorem r_stir {G : GT} {C : AH} {Q : QT} {X : XT} {m T : Nat} {τ : Rw} {r : Nat} (hO : GO G) (hM : MdS C m) (hV : Vr (gI C) (m + 5) τ) (hk : Ok T τ) (hT : T ≤ 48000) (hr : r < 2147483648) (hq : ∀ f : Nat → Nat → Int32, Vr f (m + 5) (stirS r τ) → (∀ a, (a < m + 2 ∨ a = m + 4 ∨ (m + 6 ≤ a ∧ a ≤ m + 8) ∨ m + 14 ≤ a) → f a = gI C a) → Q none (wI C f)) : Mt G M_X5_stir [.ref m, .int (nI r)] C Q X := by
  refine Mt_of (by decide) (Nat.le_of_ble_eq_true rfl) ?_
  obtain ⟨hm0, ⟨g1, g6, g7, g8, g9, g10, g12, g13, g14, g15, g16, g17, g18⟩, k1, k2, k3, k4, k5, k6, k7, k8, k9, k10, k11, k12, k13, hmz⟩ := id hM
  obtain ⟨hW, hB⟩ := id hk
  have t1 : τ 1 ≤ 8 := hW.1
  refine x_iload_n dX5_stir_0 rfl ?_
  refine x_bipush (v := nI 8) dX5_stir_1 (by decide) ?_
  refine x_idiv dX5_stir_3 (by decide) ?_
  rw [pk_div (by omega) (by decide) (by decide)]
  refine x_bipush (v := nI 8) dX5_stir_4 (by decide) ?_
  refine x_irem dX5_stir_6 (by decide) ?_
  rw [pk_rem (by omega) (by decide) (by decide)]
  refine x_istore_n dX5_stir_7 (by decide) ?_
  refine x_iload_n dX5_stir_8 rfl ?_
  skip
  refine x_bipush (v := nI 8) dX5_stir_9 (by decide) ?_
  refine x_irem dX5_stir_11 (by decide) ?_
  rw [pk_rem (by omega) (by decide) (by decide)]
  refine x_istore_n dX5_stir_12 (by decide) ?_
  refine x_iload_n dX5_stir_13 rfl ?_
  refine x_if_ne (tgt := 100) dX5_stir_14 (by decide) (fun c14 => ?_) (fun c14 => ?_)
  · simp (disch := omega) only [nI_z] at c14
    refine x_iload_n dX5_stir_100 rfl ?_
    refine x_iconst (v := nI 1) dX5_stir_101 (by decide) ?_
    refine x_icmp_ne (tgt := 125) dX5_stir_102 (by decide) (fun c102 => ?_) (fun c102 => ?_)
    · simp (disch := omega) only [nI_eq] at c102
      refine x_iload_n dX5_stir_125 rfl ?_
      refine x_iconst (v := nI 2) dX5_stir_126 (by decide) ?_
      refine x_icmp_ne (tgt := 148) dX5_stir_127 (by decide) (fun c127 => ?_) (fun c127 => ?_)
      · simp (disch := omega) only [nI_eq] at c127
        refine x_aload_n dX5_stir_148 rfl ?_
        refine x_aload_n dX5_stir_149 rfl ?_
        refine x_get 7 hO dX5_stir_150 f_X5_22 (by first | (simp only [gK_wI]; assumption) | assumption) ⟨by decide, by decide⟩ (v := .ref (m + 5)) (congrArg va_rf g9) ?_
        refine x_iconst (v := nI 1) dX5_stir_153 (by decide) ?_
        refine x_iload_n dX5_stir_154 rfl ?_
        refine x_bipush (v := nI 8) dX5_stir_155 (by decide) ?_
        refine x_idiv dX5_stir_157 (by decide) ?_
        rw [pk_div (by omega) (by decide) (by decide)]
        refine x_bipush (v := nI 9) dX5_stir_158 (by decide) ?_
        refine x_irem dX5_stir_160 (by decide) ?_
        rw [pk_rem (by omega) (by decide) (by decide)]
        refine x_iadd dX5_stir_161 ?_
        rw [nI_add]
        refine x_callV (As := [_, _]) 7 hO dX5_stir_162 o_X5_runIn v_X5_runIn l_X5_189 ⟨by decide, by decide⟩ (by first | (simp only [gK_wI]; assumption) | assumption) ⟨by decide, by decide⟩ rfl ⟨by decide, by decide⟩ rfl rfl (Nat.le_of_ble_eq_true rfl) (r_runIn hO k5 hV hW hB (by omega) hM (by omega) (fun f162 v162 r162 => ?_))
        dsimp only [Option.toList, List.cons_append, List.nil_append]
        refine x_pop dX5_stir_165 rfl ?_
        refine x_ret dX5_stir_166 rfl ?_
        have hs : stirS r τ = runN (1 + r / 8 % 9) τ := (if_neg (by omega)).trans ((if_neg (by omega)).trans (if_neg (by omega)))
        exact hq f162 (by rw [hs]; exact v162) (fun a ha => r162 a (by omega) (by omega))
      · simp (disch := omega) only [nI_eq] at c127
        refine x_aload_n dX5_stir_130 rfl ?_
        refine x_get 7 hO dX5_stir_131 f_X5_22 (by first | (simp only [gK_wI]; assumption) | assumption) ⟨by decide, by decide⟩ (v := .ref (m + 5)) (congrArg va_rf g9) ?_
        refine x_bipush (v := nI 7) dX5_stir_134 (by decide) ?_
        refine x_iload_n dX5_stir_136 rfl ?_
        refine x_bipush (v := nI 64) dX5_stir_137 (by decide) ?_
        refine x_idiv dX5_stir_139 (by decide) ?_
        rw [pk_div (by omega) (by decide) (by decide)]
        refine x_sipush (v := nI 251) dX5_stir_140 (by decide) ?_
        refine x_irem dX5_stir_143 (by decide) ?_
        rw [pk_rem (by omega) (by decide) (by decide)]
        refine x_rowS 7 (r / 64 % 251) hO dX5_stir_144 k5 hV rfl (by decide) rfl (fun f144 v144 r144 => ?_)
        refine x_goto (tgt := 166) dX5_stir_145 (by decide) ?_
        refine x_ret dX5_stir_166 rfl ?_
        have hs : stirS r τ = stS τ 0 (r / 64 % 251) := (if_neg (by omega)).trans ((if_neg (by omega)).trans (if_pos (by omega)))
        exact hq f144 (by rw [hs]; exact v144) (fun a ha => r144 a (by omega))
    · simp (disch := omega) only [nI_eq] at c102
      refine x_aload_n dX5_stir_105 rfl ?_
      refine x_iload_n dX5_stir_106 rfl ?_
      refine x_bipush (v := nI 10) dX5_stir_107 (by decide) ?_
      refine x_iload_n dX5_stir_109 rfl ?_
      refine x_bipush (v := nI 64) dX5_stir_110 (by decide) ?_
      refine x_idiv dX5_stir_112 (by decide) ?_
      rw [pk_div (by omega) (by decide) (by decide)]
      refine x_sipush (v := nI 200) dX5_stir_113 (by decide) ?_
      refine x_irem dX5_stir_116 (by decide) ?_
      rw [pk_rem (by omega) (by decide) (by decide)]
      refine x_iadd dX5_stir_117 ?_
      rw [nI_add]
      refine x_callV (As := [_, _]) 7 hO dX5_stir_118 o_X5_renews v_X5_renews l_X5_286 ⟨by decide, by decide⟩ (by first | (simp only [gK_wI]; assumption) | assumption) ⟨by decide, by decide⟩ rfl ⟨by decide, by decide⟩ rfl rfl (Nat.le_of_ble_eq_true rfl) (r_renews (a := 0) (d := r / 8 % 8) (t := 10 + r / 64 % 200) hO hM hV hk (by omega) (by omega) (fun r118 f118 hr118 v118 w118 => ?_))
      dsimp only [Option.toList, List.cons_append, List.nil_append]
      refine x_pop dX5_stir_121 rfl ?_
      refine x_goto (tgt := 166) dX5_stir_122 (by decide) ?_
      refine x_ret dX5_stir_166 rfl ?_
      have hs : stirS r τ = (doesP 2 0 (r / 8 % 8) (10 + r / 64 % 200) τ).2 := by
        refine (if_neg (by omega)).trans ((if_pos (by omega)).trans ?_)
        by_cases q : r / 8 % 8 < τ 1 ∧ τ (bi (r / 8 % 8) 6) = 0
        · rw [if_pos q, show doesP 2 0 (r / 8 % 8) (10 + r / 64 % 200) τ = (true, btB τ (r / 8 % 8) (10 + r / 64 % 200)) from if_pos ⟨q.1, q.2, by omega, by omega⟩]
        · rw [if_neg q, show doesP 2 0 (r / 8 % 8) (10 + r / 64 % 200) τ = (false, τ) from if_neg (fun q2 => q ⟨q2.1, q2.2.1⟩)]
      exact hq f118 (by rw [hs]; exact v118) w118
  · simp (disch := omega) only [nI_z] at c14
    refine x_iconst (v := nI 1) dX5_stir_17 (by decide) ?_
    refine x_iload_n dX5_stir_18 rfl ?_
    refine x_bipush (v := nI 64) dX5_stir_19 (by decide) ?_
    refine x_idiv dX5_stir_21 (by decide) ?_
    rw [pk_div (by omega) (by decide) (by decide)]
    refine x_bipush (v := nI 99) dX5_stir_22 (by decide) ?_
    refine x_irem dX5_stir_24 (by decide) ?_
    rw [pk_rem (by omega) (by decide) (by decide)]
    refine x_iadd dX5_stir_25 ?_
    rw [nI_add]
    refine x_istore dX5_stir_26 (by decide) ?_
    refine x_iload_n dX5_stir_28 rfl ?_
    refine x_sipush (v := nI 8192) dX5_stir_29 (by decide) ?_
    refine x_idiv dX5_stir_32 (by decide) ?_
    rw [pk_div (by omega) (by decide) (by decide)]
    refine x_bipush (v := nI 24) dX5_stir_33 (by decide) ?_
    refine x_irem dX5_stir_35 (by decide) ?_
    rw [pk_rem (by omega) (by decide) (by decide)]
    refine x_istore dX5_stir_36 (by decide) ?_
    refine x_iload_n dX5_stir_38 rfl ?_
    refine x_ldcw hO.1 dX5_stir_39 k_X5_303 ?_
    rw [show (262144 : Int32) = nI 262144 from rfl]
    refine x_idiv dX5_stir_42 (by decide) ?_
    rw [pk_div (by omega) (by decide) (by decide)]
    refine x_bipush (v := nI 24) dX5_stir_43 (by decide) ?_
    refine x_irem dX5_stir_45 (by decide) ?_
    rw [pk_rem (by omega) (by decide) (by decide)]
    refine x_istore dX5_stir_46 (by decide) ?_
    refine x_aload_n dX5_stir_48 rfl ?_
    refine x_iload_n dX5_stir_49 rfl ?_
    refine x_callV (As := [_]) 7 hO dX5_stir_50 o_X5_isThere v_X5_isThere l_X5_280 ⟨by decide, by decide⟩ (by first | (simp only [gK_wI]; assumption) | assumption) ⟨by decide, by decide⟩ rfl ⟨by decide, by decide⟩ rfl rfl (Nat.le_of_ble_eq_true rfl) (r_isThere hO hM hV t1 (by omega) (fun r50 hr50 => ?_))
    dsimp only [Option.toList, List.cons_append, List.nil_append]
    refine x_if_eq (tgt := 97) dX5_stir_53 (by decide) (fun c53 => ?_) (fun c53 => ?_)
    · have p50 := (ite01 hr50).1 c53
      have hs : stirS r τ = τ := (if_pos c14).trans (if_neg (fun q => p50 q.1))
      refine x_goto (tgt := 166) dX5_stir_97 (by decide) ?_
      refine x_ret dX5_stir_166 rfl ?_
      first
        | exact hq f93 (by rw [hs]; exact v93) (fun a ha => r93 a (by omega))
        | exact hq (gI C) (by rw [hs]; exact hV) (fun _ _ => rfl)
    · have p50 := (ite01 hr50).2 c53
      obtain ⟨b0, b0', b1, b2, b2', b3, b4, b34, b6⟩ := hW.2.2.2.2.2.2.2.2.2.1 (r / 8 % 8) p50
      refine x_iload dX5_stir_56 rfl ?_
      refine x_iload dX5_stir_58 rfl ?_
      refine x_iload dX5_stir_60 rfl ?_
      refine x_callS (As := [_, _, _]) hO dX5_stir_62 o_X5_isRoute s_X5_isRoute l_X5_248 ⟨by decide, by decide⟩ ⟨by decide, by decide⟩ rfl rfl (Nat.le_of_ble_eq_true rfl) (r_isRoute hO (fun r62 hr62 => ?_))
      dsimp only [Option.toList, List.cons_append, List.nil_append]
      refine x_if_eq (tgt := 97) dX5_stir_65 (by decide) (fun c65 => ?_) (fun c65 => ?_)
      · have p62 := (ite01 hr62).1 c65
        have hs : stirS r τ = τ := (if_pos c14).trans (if_neg (fun q => p62 (okR_N.mpr ⟨_, _, _, rfl, rfl, rfl, q.2.2⟩)))
        refine x_goto (tgt := 166) dX5_stir_97 (by decide) ?_
        refine x_ret dX5_stir_166 rfl ?_
        first
          | exact hq f93 (by rw [hs]; exact v93) (fun a ha => r93 a (by omega))
          | exact hq (gI C) (by rw [hs]; exact hV) (fun _ _ => rfl)
      · have p62 := (ite01 hr62).2 c65
        refine x_aload_n dX5_stir_68 rfl ?_
        refine x_get 7 hO dX5_stir_69 f_X5_22 (by first | (simp only [gK_wI]; assumption) | assumption) ⟨by decide, by decide⟩ (v := .ref (m + 5)) (congrArg va_rf g9) ?_
        refine x_iload_n dX5_stir_72 rfl ?_
        refine x_bipush (v := nI 6) dX5_stir_73 (by decide) ?_
        refine x_callS (As := [_, _]) hO dX5_stir_75 o_X5_busAt s_X5_busAt l_X5_67 ⟨by decide, by decide⟩ ⟨by decide, by decide⟩ rfl rfl (Nat.le_of_ble_eq_true rfl) (r_busAt hO ?_)
        dsimp only [Option.toList, List.cons_append, List.nil_append]
        refine x_row _ hO dX5_stir_78 k5 hV rfl (by simp only [bi]; omega) ?_
        refine x_if_ne (tgt := 97) dX5_stir_79 (by decide) (fun c79 => ?_) (fun c79 => ?_)
        · simp (disch := omega) only [nI_z] at c79
          have hs : stirS r τ = τ := (if_pos c14).trans (if_neg (fun q => c79 q.2.1))
          refine x_goto (tgt := 166) dX5_stir_97 (by decide) ?_
          refine x_ret dX5_stir_166 rfl ?_
          first
            | exact hq f93 (by rw [hs]; exact v93) (fun a ha => r93 a (by omega))
            | exact hq (gI C) (by rw [hs]; exact hV) (fun _ _ => rfl)
        · simp (disch := omega) only [nI_z] at c79
          have hok : okRN (1 + r / 64 % 99) (r / 8192 % 24) (r / 262144 % 24) := by
            obtain ⟨x, y, z, e1, e2, e3, h⟩ := okR_N.mp p62
            obtain ⟨o1, o2, o3, o4, o5⟩ := id h
            have e1 := (nI_eq (by omega) (by omega)).mp e1
            have e2 := (nI_eq (by omega) (by omega)).mp e2
            have e3 := (nI_eq (by omega) (by omega)).mp e3
            subst e1 e2 e3
            exact h
          have hs : stirS r τ = rtB τ (r / 8 % 8) (1 + r / 64 % 99) (r / 8192 % 24) (r / 262144 % 24) := (if_pos c14).trans (if_pos ⟨p50, c79, hok⟩)
          refine x_aload_n dX5_stir_82 rfl ?_
          refine x_get 7 hO dX5_stir_83 f_X5_22 (by first | (simp only [gK_wI]; assumption) | assumption) ⟨by decide, by decide⟩ (v := .ref (m + 5)) (congrArg va_rf g9) ?_
          refine x_iload_n dX5_stir_86 rfl ?_
          refine x_iload dX5_stir_87 rfl ?_
          refine x_iload dX5_stir_89 rfl ?_
          refine x_iload dX5_stir_91 rfl ?_
          refine x_callS (As := [_, _, _, _, _]) hO dX5_stir_93 o_X5_routeIn s_X5_routeIn l_X5_257 ⟨by decide, by decide⟩ ⟨by decide, by decide⟩ rfl rfl (Nat.le_of_ble_eq_true rfl) (r_routeIn hO k5 hV (by omega) (fun f93 v93 r93 => ?_))
          dsimp only [Option.toList, List.cons_append, List.nil_append]
          refine x_pop dX5_stir_96 rfl ?_
          refine x_goto (tgt := 166) dX5_stir_97 (by decide) ?_
          refine x_ret dX5_stir_166 rfl ?_
          first
            | exact hq f93 (by rw [hs]; exact v93) (fun a ha => r93 a (by omega))
            | exact hq (gI C) (by rw [hs]; exact hV) (fun _ _ => rfl)

theorem r_simulate {G : GT} {C : AH} {Q : QT} {X : XT} {m T n : Nat} {S : Nat → Nat} {ρ : Rw} {L : List Rw} {K : Nat → Option Rw} {v : Int64} {w : Int32} (hO : GO G) (hT : T ≤ 40000) (hR : RM T C m (S, n, ρ, L, K)) (hq : ∀ (r : Int32) (f : Nat → Nat → Int32), RM (T) (wI C f) m (aSim (S, n, ρ, L, K) v w).2.2 → (∀ a, (a < m ∨ m + 14 ≤ a) → f a = gI C a) → f m 0 = nI (aSim (S, n, ρ, L, K) v w).1 → ((aSim (S, n, ρ, L, K) v w).1 = 0 → r = (aSim (S, n, ρ, L, K) v w).2.1) → Q (some (.int r)) (wI C f)) : Mt G M_X5_simulate [.ref m, .long v, .int w] C Q X := by
  refine Mt_of (by decide) (Nat.le_of_ble_eq_true rfl) ?_
  obtain ⟨hk, hM, hv⟩ := id hR
  obtain ⟨hm0, ⟨g1, g6, g7, g8, g9, g10, g12, g13, g14, g15, g16, g17, g18⟩, k1, k2, k3, k4, k5, k6, k7, k8, k9, k10, k11, k12, k13, hmz⟩ := id hM
  obtain ⟨vn, vS, vN, vA, vH, vK⟩ : gI C m 2 = nI n ∧ (∀ i, i < n → gI C (m + 1) i = nI (S i)) ∧ Vr (gI C) (m + 4) ρ ∧ gI C m 11 = nI L.length ∧ (∀ i σ, L[i]? = some σ → Vo (gI C) (m + 6) (74 * i) σ) ∧ ∀ i, i < 2 → (K i = none → gI C (m + 8) i = 0) ∧ ∀ σ, K i = some σ → gI C (m + 8) i = 1 ∧ Vo (gI C) (m + 7) (74 * i) σ := hv
  obtain ⟨ok1, ok2, ok3, ok4, ok5, ok6⟩ : Ok T ρ ∧ (∀ σ, σ ∈ L → Ok T σ) ∧ (∀ i σ, K i = some σ → Ok T σ) ∧ n ≤ 120 ∧ (∀ i, i < n → S i < 256) ∧ L.length ≤ 14 := hk
  obtain ⟨hW, hB⟩ := id ok1
  obtain ⟨hb0, hb3, hb4, hb5, hb6, hb7⟩ := id hB
  obtain ⟨w1, w2, w7, w8, w9, w10, w11, w11', w12, wB, wP⟩ := id hW
  refine x_aload_n dX5_simulate_0 rfl ?_
  refine x_iload_n dX5_simulate_1 rfl ?_
  refine x_i2l dX5_simulate_2 ?_
  refine x_lconst (v := 1) dX5_simulate_3 (by decide) ?_
  refine x_ldc2 hO.1 dX5_simulate_4 k_X5_304 ?_
  refine x_callS (As := [_, _, _]) hO dX5_simulate_7 o_X5_in s_X5_in l_X5_118 ⟨by decide, by decide⟩ ⟨by decide, by decide⟩ rfl rfl (Nat.le_of_ble_eq_true rfl) (r_inI (a := nI 1) (b := nI 30) hO (by decide) (by decide) (fun r7 hr7 => ?_))
  dsimp only [Option.toList, List.cons_append, List.nil_append]
  refine x_if_eq (tgt := 17) dX5_simulate_10 (by decide) (fun c10 => ?_) (fun c10 => ?_)
  · have p7 := (ite01 hr7).1 c10
    refine x_iconst (v := nI 1) dX5_simulate_17 (by decide) ?_
    refine x_callV (As := [_]) 7 hO dX5_simulate_18 o_X5_refused v_X5_refused l_X5_137 ⟨by decide, by decide⟩ (by first | (simp only [gK_wI]; assumption) | assumption) ⟨by decide, by decide⟩ rfl ⟨by decide, by decide⟩ rfl rfl (Nat.le_of_ble_eq_true rfl) (t_ref hO hR (by decide) (fun r18 f18 hr18 z18 hR1 fr18 => ?_))
    dsimp only [Option.toList, List.cons_append, List.nil_append]
    refine x_if_eq (tgt := 26) dX5_simulate_21 (by decide) (fun c21 => ?_) (fun c21 => ?_)
    · exact absurd (c21.symm.trans (hr18.trans (if_pos (by decide)))) (by decide)
    · have p18 := (ite01 hr18).2 c21
      refine x_iconst (v := nI 0) dX5_simulate_24 (by decide) ?_
      refine x_iret dX5_simulate_25 rfl rfl ?_
      have eA : aSim (S, n, ρ, L, K) v w = (1, 0, (S, n, ρ, L, K)) := if_neg p7
      refine hq _ f18 ?_ (fun a ha => fr18 a (by omega)) ?_ ?_
      · rw [eA]
        exact hR1
      · rw [eA]
        exact z18
      · rw [eA]
        exact fun h => absurd h (Nat.succ_ne_zero _)
  · have p7 := (ite01 hr7).2 c10
    refine x_iconst (v := nI 0) dX5_simulate_13 (by decide) ?_
    refine x_goto (tgt := 18) dX5_simulate_14 (by decide) ?_
    refine x_callV (As := [_]) 7 hO dX5_simulate_18 o_X5_refused v_X5_refused l_X5_137 ⟨by decide, by decide⟩ (by first | (simp only [gK_wI]; assumption) | assumption) ⟨by decide, by decide⟩ rfl ⟨by decide, by decide⟩ rfl rfl (Nat.le_of_ble_eq_true rfl) (t_ref hO hR (by decide) (fun r18 f18 hr18 z18 hR1 fr18 => ?_))
    dsimp only [Option.toList, List.cons_append, List.nil_append]
    refine x_if_eq (tgt := 26) dX5_simulate_21 (by decide) (fun c21 => ?_) (fun c21 => ?_)
    · have p18 := (ite01 hr18).1 c21
      obtain ⟨k, y0, y9, rfl⟩ := (rng (by decide) (by decide)).mp p7
      obtain ⟨hk, hM, hv⟩ := id hR1
      obtain ⟨hm0, ⟨g1, g6, g7, g8, g9, g10, g12, g13, g14, g15, g16, g17, g18⟩, k1, k2, k3, k4, k5, k6, k7, k8, k9, k10, k11, k12, k13, hmz⟩ := id hM
      obtain ⟨vn, vS, vN, vA, vH, vK⟩ : f18 m 2 = nI n ∧ (∀ i, i < n → f18 (m + 1) i = nI (S i)) ∧ Vr (f18) (m + 4) ρ ∧ f18 m 11 = nI L.length ∧ (∀ i σ, L[i]? = some σ → Vo (f18) (m + 6) (74 * i) σ) ∧ ∀ i, i < 2 → (K i = none → f18 (m + 8) i = 0) ∧ ∀ σ, K i = some σ → f18 (m + 8) i = 1 ∧ Vo (f18) (m + 7) (74 * i) σ := hv
      obtain ⟨ok1, ok2, ok3, ok4, ok5, ok6⟩ : Ok T ρ ∧ (∀ σ, σ ∈ L → Ok T σ) ∧ (∀ i σ, K i = some σ → Ok T σ) ∧ n ≤ 120 ∧ (∀ i, i < n → S i < 256) ∧ L.length ≤ 14 := hk
      obtain ⟨hW, hB⟩ := id ok1
      obtain ⟨hb0, hb3, hb4, hb5, hb6, hb7⟩ := id hB
      obtain ⟨w1, w2, w7, w8, w9, w10, w11, w11', w12, wB, wP⟩ := id hW
      have eA : aSim (S, n, ρ, L, K) v (nI k) = (0, simV ρ (xI v ρ k).2, (S, n, ρ, L, K)) := by
        unfold aSim
        rw [if_pos p7, nI_clamp (show k < 2 ^ 31 by omega)]
      refine x_aload_n dX5_simulate_26 rfl ?_
      refine x_callV (As := []) 7 hO dX5_simulate_27 o_X5_tryIt v_X5_tryIt l_X5_215 ⟨by decide, by decide⟩ (by first | (simp only [gK_wI]; assumption) | assumption) ⟨by decide, by decide⟩ rfl ⟨by decide, by decide⟩ rfl rfl (Nat.le_of_ble_eq_true rfl) (r_tryIt hO hT hR1 (fun f27 v27 r27 => ?_))
      dsimp only [Option.toList, List.cons_append, List.nil_append]
      refine x_lload_n dX5_simulate_30 rfl ?_
      refine x_lstore dX5_simulate_31 (by decide) ?_
      refine x_iconst (v := nI 0) dX5_simulate_33 (by decide) ?_
      refine x_istore dX5_simulate_34 (by decide) ?_
      have loop : ∀ (m9 i : Nat) (f : Nat → Nat → Int32), k - i = m9 → i ≤ k → Vr f (m + 5) (xI v ρ i).2 → (∀ a, (a < m + 2 ∨ a = m + 4 ∨ (m + 6 ≤ a ∧ a ≤ m + 8) ∨ m + 14 ≤ a) → f a = f18 a) → Ex G M_X5_simulate Q X (mC M_X5_simulate) (mS M_X5_simulate) 36 [(0, .ref m), (1, .long v), (3, .int (nI k)), (4, .long (xI v ρ i).1), (6, .int (nI i))] [] (wI C f) := by
        intro m9
        induction m9 using Nat.strongRecOn with
        | _ m9 ih =>
        intro i f hm9 hi hVf SF
        refine x_iload dX5_simulate_36 rfl ?_
        refine x_iload_n dX5_simulate_38 rfl ?_
        refine x_icmp_ge (tgt := 70) dX5_simulate_39 (by decide) (fun c39 => ?_) (fun c39 => ?_)
        · simp (disch := omega) only [nI_leI] at c39
          have : i = k := by omega
          subst this
          refine x_sipush (v := nI 1000) dX5_simulate_70 (by decide) ?_
          refine x_aload_n dX5_simulate_73 rfl ?_
          refine x_get 7 hO dX5_simulate_74 f_X5_22 (by first | (simp only [gK_wI]; assumption) | assumption) ⟨by decide, by decide⟩ (v := .ref (m + 5)) (congrArg va_rf g9) ?_
          refine x_iconst (v := nI 5) dX5_simulate_77 (by decide) ?_
          refine x_row 5 hO dX5_simulate_78 k5 hVf rfl (by decide) ?_
          refine x_aload_n dX5_simulate_79 rfl ?_
          refine x_get 7 hO dX5_simulate_80 f_X5_19 (by first | (simp only [gK_wI]; assumption) | assumption) ⟨by decide, by decide⟩ (v := .ref (m + 4)) (congrArg va_rf g8) ?_
          refine x_iconst (v := nI 5) dX5_simulate_83 (by decide) ?_
          refine x_row 5 hO dX5_simulate_84 k4 (Vr_to vN (SF _ (by omega))) rfl (by decide) ?_
          refine x_isub dX5_simulate_85 ?_
          refine x_imul dX5_simulate_86 ?_
          refine x_aload_n dX5_simulate_87 rfl ?_
          refine x_get 7 hO dX5_simulate_88 f_X5_22 (by first | (simp only [gK_wI]; assumption) | assumption) ⟨by decide, by decide⟩ (v := .ref (m + 5)) (congrArg va_rf g9) ?_
          refine x_bipush (v := nI 6) dX5_simulate_91 (by decide) ?_
          refine x_row 6 hO dX5_simulate_93 k5 hVf rfl (by decide) ?_
          refine x_iadd dX5_simulate_94 ?_
          refine x_aload_n dX5_simulate_95 rfl ?_
          refine x_get 7 hO dX5_simulate_96 f_X5_19 (by first | (simp only [gK_wI]; assumption) | assumption) ⟨by decide, by decide⟩ (v := .ref (m + 4)) (congrArg va_rf g8) ?_
          refine x_bipush (v := nI 6) dX5_simulate_99 (by decide) ?_
          refine x_row 6 hO dX5_simulate_101 k4 (Vr_to vN (SF _ (by omega))) rfl (by decide) ?_
          refine x_isub dX5_simulate_102 ?_
          refine x_iret dX5_simulate_103 rfl rfl ?_
          have e9 : nI 1000 * (nI ((xI v ρ i).2 5) - nI (ρ 5)) + nI ((xI v ρ i).2 6) - nI (ρ 6) = simV ρ (xI v ρ i).2 := by
            unfold simV
            rw [Int32.sub_eq_add_neg, Int32.add_assoc, ← Int32.sub_eq_add_neg]
          rw [e9]
          refine hq _ f ?_ (fun a ha => (SF a (by omega)).trans (fr18 a (by omega))) ?_ ?_
          · rw [eA]
            exact RM_scr hR1 SF
          · rw [eA]
            exact (congrFun (SF m (by omega)) 0).trans z18
          · rw [eA]
            exact fun _ => rfl
        · simp (disch := omega) only [nI_leI] at c39
          refine x_lload dX5_simulate_42 rfl ?_
          refine x_ldc2 hO.1 dX5_simulate_44 k_X5_306 ?_
          refine x_lmul dX5_simulate_47 ?_
          refine x_ldc2 hO.1 dX5_simulate_48 k_X5_308 ?_
          refine x_ladd dX5_simulate_51 ?_
          refine x_lstore dX5_simulate_52 (by decide) ?_
          refine x_aload_n dX5_simulate_54 rfl ?_
          refine x_lload dX5_simulate_55 rfl ?_
          refine x_bipush (v := nI 33) dX5_simulate_57 (by decide) ?_
          refine x_lushr dX5_simulate_59 ?_
          refine x_l2i dX5_simulate_60 ?_
          rw [show (xI v ρ i).1 * 6364136223846793005 + 1442695040888963407 = nxX (xI v ρ i).1 from rfl, rS_is]
          refine x_callV (As := [_]) 7 hO dX5_simulate_61 o_X5_stir v_X5_stir l_X5_310 ⟨by decide, by decide⟩ (by first | (simp only [gK_wI]; assumption) | assumption) ⟨by decide, by decide⟩ rfl ⟨by decide, by decide⟩ rfl rfl (Nat.le_of_ble_eq_true rfl) (r_stir (C := wI C f) (T := T + 9 * i) hO hM hVf (Ok_xI ok1 i) (by omega) rS_lt (fun f61 v61 w61 => ?_))
          dsimp only [Option.toList, List.cons_append, List.nil_append]
          simp only [gI_wI] at w61
          try simp only [wI_wI, gI_wI]
          refine x_iinc (v := nI 1) dX5_simulate_64 rfl (by decide) (by decide) ?_
          refine x_goto (tgt := 36) dX5_simulate_67 (by decide) ?_
          refine x_ls [(0, .ref m), (1, .long v), (3, .int (nI k)), (4, .long (xI v ρ (i + 1)).1), (6, .int (nI (i + 1)))] ⟨rfl, rfl, rfl, rfl, (by rw [← nI_add]; rfl), trivial⟩ ?_
          exact ih (m9 - 1) (by omega) (i + 1) f61 (by omega) (by omega) v61 (fun a ha => (w61 a ha).trans (SF a ha))
      simp only [gI_wI] at r27
      try simp only [wI_wI, gI_wI]
      refine x_ls [(0, .ref m), (1, .long v), (3, .int (nI k)), (4, .long (xI v ρ 0).1), (6, .int (nI 0))] ⟨rfl, rfl, rfl, rfl, rfl, trivial⟩ ?_
      exact loop _ 0 f27 rfl (Nat.zero_le _) v27 (fun a ha => r27 a (by omega))
    · exact absurd (hr18.trans (if_neg (by decide))) c21

