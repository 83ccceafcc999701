/-! the reference: what there is *)-/
theorem RM_scr {T : Nat} {C : AH} {f1 f : Nat → Nat → Int32} {m : Nat} {s : St} (h : RM T (wI C f1) m s) (hf : ∀ a, (a < m + 2 ∨ a = m + 4 ∨ (m + 6 ≤ a ∧ a ≤ m + 8) ∨ m + 14 ≤ a) → f a = f1 a) : RM T (wI C f) m s :=
  RM_to (C := wI C f1) h (congrFun (hf m (by omega)) 2) (congrFun (hf m (by omega)) 11) fun k hk => hf _ (by omega)
theorem r_layTrial {G : GT} {C : AH} {Q : QT} {X : XT} {m T : Nat} {ρ : Rw} (hO : GO G) (hM : MdS C m) (hV : Vr (gI C) (m + 5) ρ) (hk : Ok T ρ) (hT : T ≤ 60000) (hq : ∀ f : Nat → Nat → Int32, Vr f (m + 5) (mved ρ) → LyR f m (pvw ρ) → Lst (f (m + 9)) (ordL ρ) → (∀ b, b ≠ m + 5 → b < m + 9 ∨ m + 14 ≤ b → f b = gI C b) → Q none (wI C f)) : Mt G M_X5_layTrial [.ref m] C Q X := by
  refine Mt_of (by decide) (Nat.le_of_ble_eq_true rfl) ?_
  obtain ⟨hm0, ⟨g1, g6, g7, g8, g9, g10, g12, g13, g14, g15, g16, g17, g18⟩, k1, k2, k3, k4, k5, k6, k7, k8, k9, k10, k11, k12, k13, hmz⟩ := id hM
  obtain ⟨hW, hB⟩ := id hk
  have h0 : ρ 0 < 1000000 := by have := hB.1; omega
  have b00 : back ρ 0 = ρ 0 := back_o fun b hb => by simp only [bi]; omega
  have hBb := Bd_back hB hW.1
  have hwb : ∀ b, b < back ρ 1 → back ρ (bi b 5) < 2000000 := fun b hb => by have := hBb.2.2.2.2.2 b hb; omega
  have hWm := (Wf_mved hW).1
  have eo : ordL (mved ρ) = ordL ρ := ordL_congr (mved_2 hW) fun c hc => by
    have w1 : ρ 1 ≤ 8 := hW.1
    have e1 : back ρ 1 = ρ 1 := (Wf_back hW).2
    unfold mved
    rw [leave_o fun b hb => by simp only [tch, bi]; omega, back_o fun b hb => by simp only [bi]; omega]
  refine x_aload_n dX5_layTrial_0 rfl ?_
  refine x_get 7 hO dX5_layTrial_1 f_X5_22 (by first | (simp only [gK_wI]; assumption) | assumption) ⟨by decide, by decide⟩ (v := .ref (m + 5)) (congrArg va_rf g9) ?_
  refine x_callS (As := [_]) hO dX5_layTrial_4 o_X5_comeBack s_X5_comeBack l_X5_104 ⟨by decide, by decide⟩ ⟨by decide, by decide⟩ rfl rfl (Nat.le_of_ble_eq_true rfl) (r_comeBack hO k5 hV hW h0 (fun f1 v1 r1 => ?_))
  dsimp only [Option.toList, List.cons_append, List.nil_append]
  refine x_aload_n dX5_layTrial_7 rfl ?_
  refine x_get 7 hO dX5_layTrial_8 f_X5_22 (by first | (simp only [gK_wI]; assumption) | assumption) ⟨by decide, by decide⟩ (v := .ref (m + 5)) (congrArg va_rf g9) ?_
  refine x_callS (As := [_]) hO dX5_layTrial_11 o_X5_leave s_X5_leave l_X5_107 ⟨by decide, by decide⟩ ⟨by decide, by decide⟩ rfl rfl (Nat.le_of_ble_eq_true rfl) (r_leave (C := wI C f1) hO k5 v1 (Wf_back hW).1 (by rw [b00]; exact h0) hwb (fun f5 v5 r5 => ?_))
  dsimp only [Option.toList, List.cons_append, List.nil_append]
  refine x_aload_n dX5_layTrial_14 rfl ?_
  refine x_aload_n dX5_layTrial_15 rfl ?_
  refine x_get 7 hO dX5_layTrial_16 f_X5_22 (by first | (simp only [gK_wI]; assumption) | assumption) ⟨by decide, by decide⟩ (v := .ref (m + 5)) (congrArg va_rf g9) ?_
  refine x_callV (As := [_]) 7 hO dX5_layTrial_19 o_X5_lay v_X5_lay l_X5_110 ⟨by decide, by decide⟩ (by first | (simp only [gK_wI]; assumption) | assumption) ⟨by decide, by decide⟩ rfl ⟨by decide, by decide⟩ rfl rfl (Nat.le_of_ble_eq_true rfl) (r_lay (C := wI C f5) (ρ := mved ρ) hO k5 v5 hWm (by rw [mved_0]; exact h0) (MdS_wI hM) (by omega) (fun f10 y10 l10 r10 => ?_))
  dsimp only [Option.toList, List.cons_append, List.nil_append]
  refine x_ret dX5_layTrial_22 rfl ?_
  have v5 : Vr f5 (m + 5) (mved ρ) := v5
  rw [eo] at l10
  exact hq f10 (Vr_to v5 (r10 _ (by omega))) y10 l10 (fun b h1 h2 => (r10 b h2).trans ((r5 b h1).trans (r1 b h1)))

def sG (ρ : Rw) (k : Nat) (b : Nat) : Nat := if k = 7 then ρ (bi b 6) else if k = 8 then (if low ρ b then 1 else 0) else ρ (bi b 1)
theorem r_sumOf {G : GT} {C : AH} {Q : QT} {X : XT} {m k : Nat} {ρ : Rw} (hO : GO G) (hM : MdS C m) (hV : Vr (gI C) (m + 4) ρ) (hW : Wf ρ) (hk : k < 20) (hq : Q (some (.int (nI (sm (sG ρ k) (ρ 1))))) C) : Mt G M_X5_sumOf [.ref m, .int (nI k)] C Q X := by
  refine Mt_of (by decide) (Nat.le_of_ble_eq_true rfl) ?_
  obtain ⟨hm0, ⟨g1, g6, g7, g8, g9, g10, g12, g13, g14, g15, g16, g17, g18⟩, k1, k2, k3, k4, k5, k6, k7, k8, k9, k10, k11, k12, k13, hmz⟩ := id hM
  obtain ⟨w1, w2, w7, w8, w9, w10, w11, w11', w12, wB, wP⟩ := id hW
  have loop : ∀ (m9 b : Nat), ρ 1 - b = m9 → b ≤ ρ 1 → Ex G M_X5_sumOf Q X (mC M_X5_sumOf) (mS M_X5_sumOf) 4 [(0, .ref m), (1, .int (nI k)), (2, .int (nI (sm (sG ρ k) b))), (3, .int (nI b))] [] C := by
    intro m9
    induction m9 using Nat.strongRecOn with
    | _ m9 ih =>
      intro b hm9 hb
      refine x_iload_n dX5_sumOf_4 rfl ?_
      refine x_aload_n dX5_sumOf_5 rfl ?_
      refine x_get 7 hO dX5_sumOf_6 f_X5_19 (by first | (simp only [gK_wI]; assumption) | assumption) ⟨by decide, by decide⟩ (v := .ref (m + 4)) (congrArg va_rf g8) ?_
      refine x_iconst (v := nI 1) dX5_sumOf_9 (by decide) ?_
      refine x_row 1 hO dX5_sumOf_10 k4 hV rfl (by decide) ?_
      refine x_icmp_ge (tgt := 78) dX5_sumOf_11 (by decide) (fun c11 => ?_) (fun c11 => ?_)
      · simp (disch := omega) only [nI_leI] at c11
        refine x_iload_n dX5_sumOf_78 rfl ?_
        refine x_iret dX5_sumOf_79 rfl rfl ?_
        have : b = ρ 1 := by omega
        subst this
        exact hq
      · simp (disch := omega) only [nI_leI] at c11
        have hb8 : b < ρ 1 := by omega
        obtain ⟨b0, b0', b1, b2, b2', b3, b4, b34, b6⟩ := wB b hb8
        refine x_iload_n dX5_sumOf_14 rfl ?_
        refine x_iload_n dX5_sumOf_15 rfl ?_
        refine x_bipush (v := nI 7) dX5_sumOf_16 (by decide) ?_
        refine x_icmp_ne (tgt := 35) dX5_sumOf_18 (by decide) (fun c18 => ?_) (fun c18 => ?_)
        · simp (disch := omega) only [nI_eq] at c18
          refine x_iload_n dX5_sumOf_35 rfl ?_
          refine x_bipush (v := nI 8) dX5_sumOf_36 (by decide) ?_
          refine x_icmp_ne (tgt := 60) dX5_sumOf_38 (by decide) (fun c38 => ?_) (fun c38 => ?_)
          · simp (disch := omega) only [nI_eq] at c38
            have eg : sG ρ k b = ρ (bi b 1) := (if_neg c18).trans (if_neg c38)
            refine x_aload_n dX5_sumOf_60 rfl ?_
            refine x_get 7 hO dX5_sumOf_61 f_X5_19 (by first | (simp only [gK_wI]; assumption) | assumption) ⟨by decide, by decide⟩ (v := .ref (m + 4)) (congrArg va_rf g8) ?_
            refine x_iload_n dX5_sumOf_64 rfl ?_
            refine x_iconst (v := nI 1) dX5_sumOf_65 (by decide) ?_
            refine x_callS (As := [_, _]) hO dX5_sumOf_66 o_X5_busAt s_X5_busAt l_X5_67 ⟨by decide, by decide⟩ ⟨by decide, by decide⟩ rfl rfl (Nat.le_of_ble_eq_true rfl) (r_busAt hO ?_)
            dsimp only [Option.toList, List.cons_append, List.nil_append]
            refine x_row _ hO dX5_sumOf_69 k4 hV rfl (by simp only [bi]; omega) ?_
            refine x_iadd dX5_sumOf_70 ?_
            refine x_istore_n dX5_sumOf_71 (by decide) ?_
            refine x_iinc (v := nI 1) dX5_sumOf_72 rfl (by decide) (by decide) ?_
            refine x_goto (tgt := 4) dX5_sumOf_75 (by decide) ?_
            refine x_ls [(0, .ref m), (1, .int (nI k)), (2, .int (nI (sm (sG ρ k) (b + 1)))), (3, .int (nI (b + 1)))] ⟨rfl, rfl, (by show some (Value.int _) = some (Value.int (nI (sm (sG ρ k) b + sG ρ k b))); rw [← nI_add, eg]), (by rw [← nI_add]; rfl), trivial⟩ ?_
            exact ih (m9 - 1) (by omega) (b + 1) (by omega) (by omega)
          · simp (disch := omega) only [nI_eq] at c38
            have eg0 : sG ρ k b = if low ρ b then 1 else 0 := (if_neg c18).trans (if_pos c38)
            refine x_aload_n dX5_sumOf_41 rfl ?_
            refine x_get 7 hO dX5_sumOf_42 f_X5_19 (by first | (simp only [gK_wI]; assumption) | assumption) ⟨by decide, by decide⟩ (v := .ref (m + 4)) (congrArg va_rf g8) ?_
            refine x_iload_n dX5_sumOf_45 rfl ?_
            refine x_callS (As := [_, _]) hO dX5_sumOf_46 o_X5_isLow s_X5_isLow l_X5_71 ⟨by decide, by decide⟩ ⟨by decide, by decide⟩ rfl rfl (Nat.le_of_ble_eq_true rfl) (r_isLow hO k4 hV (by omega) ⟨by omega, by omega, by omega⟩ (fun r46 hr46 => ?_))
            dsimp only [Option.toList, List.cons_append, List.nil_append]
            refine x_if_eq (tgt := 56) dX5_sumOf_49 (by decide) (fun c49 => ?_) (fun c49 => ?_)
            · have p46 := (ite01 hr46).1 c49
              have eg : sG ρ k b = 0 := eg0.trans (if_neg p46)
              refine x_iconst (v := nI 0) dX5_sumOf_56 (by decide) ?_
              refine x_goto (tgt := 70) dX5_sumOf_57 (by decide) ?_
              refine x_iadd dX5_sumOf_70 ?_
              refine x_istore_n dX5_sumOf_71 (by decide) ?_
              refine x_iinc (v := nI 1) dX5_sumOf_72 rfl (by decide) (by decide) ?_
              refine x_goto (tgt := 4) dX5_sumOf_75 (by decide) ?_
              refine x_ls [(0, .ref m), (1, .int (nI k)), (2, .int (nI (sm (sG ρ k) (b + 1)))), (3, .int (nI (b + 1)))] ⟨rfl, rfl, (by show some (Value.int _) = some (Value.int (nI (sm (sG ρ k) b + sG ρ k b))); rw [← nI_add, eg]), (by rw [← nI_add]; rfl), trivial⟩ ?_
              exact ih (m9 - 1) (by omega) (b + 1) (by omega) (by omega)
            · have p46 := (ite01 hr46).2 c49
              have eg : sG ρ k b = 1 := eg0.trans (if_pos p46)
              refine x_iconst (v := nI 1) dX5_sumOf_52 (by decide) ?_
              refine x_goto (tgt := 70) dX5_sumOf_53 (by decide) ?_
              refine x_iadd dX5_sumOf_70 ?_
              refine x_istore_n dX5_sumOf_71 (by decide) ?_
              refine x_iinc (v := nI 1) dX5_sumOf_72 rfl (by decide) (by decide) ?_
              refine x_goto (tgt := 4) dX5_sumOf_75 (by decide) ?_
              refine x_ls [(0, .ref m), (1, .int (nI k)), (2, .int (nI (sm (sG ρ k) (b + 1)))), (3, .int (nI (b + 1)))] ⟨rfl, rfl, (by show some (Value.int _) = some (Value.int (nI (sm (sG ρ k) b + sG ρ k b))); rw [← nI_add, eg]), (by rw [← nI_add]; rfl), trivial⟩ ?_
              exact ih (m9 - 1) (by omega) (b + 1) (by omega) (by omega)
        · simp (disch := omega) only [nI_eq] at c18
          have eg : sG ρ k b = ρ (bi b 6) := if_pos c18
          refine x_aload_n dX5_sumOf_21 rfl ?_
          refine x_get 7 hO dX5_sumOf_22 f_X5_19 (by first | (simp only [gK_wI]; assumption) | assumption) ⟨by decide, by decide⟩ (v := .ref (m + 4)) (congrArg va_rf g8) ?_
          refine x_iload_n dX5_sumOf_25 rfl ?_
          refine x_bipush (v := nI 6) dX5_sumOf_26 (by decide) ?_
          refine x_callS (As := [_, _]) hO dX5_sumOf_28 o_X5_busAt s_X5_busAt l_X5_67 ⟨by decide, by decide⟩ ⟨by decide, by decide⟩ rfl rfl (Nat.le_of_ble_eq_true rfl) (r_busAt hO ?_)
          dsimp only [Option.toList, List.cons_append, List.nil_append]
          refine x_row _ hO dX5_sumOf_31 k4 hV rfl (by simp only [bi]; omega) ?_
          refine x_goto (tgt := 70) dX5_sumOf_32 (by decide) ?_
          refine x_iadd dX5_sumOf_70 ?_
          refine x_istore_n dX5_sumOf_71 (by decide) ?_
          refine x_iinc (v := nI 1) dX5_sumOf_72 rfl (by decide) (by decide) ?_
          refine x_goto (tgt := 4) dX5_sumOf_75 (by decide) ?_
          refine x_ls [(0, .ref m), (1, .int (nI k)), (2, .int (nI (sm (sG ρ k) (b + 1)))), (3, .int (nI (b + 1)))] ⟨rfl, rfl, (by show some (Value.int _) = some (Value.int (nI (sm (sG ρ k) b + sG ρ k b))); rw [← nI_add, eg]), (by rw [← nI_add]; rfl), trivial⟩ ?_
          exact ih (m9 - 1) (by omega) (b + 1) (by omega) (by omega)
  refine x_iconst (v := nI 0) dX5_sumOf_0 (by decide) ?_
  refine x_istore_n dX5_sumOf_1 (by decide) ?_
  refine x_iconst (v := nI 0) dX5_sumOf_2 (by decide) ?_
  refine x_istore_n dX5_sumOf_3 (by decide) ?_
  refine x_ls [(0, .ref m), (1, .int (nI k)), (2, .int (nI (sm (sG ρ k) 0))), (3, .int (nI 0))] ⟨rfl, rfl, rfl, rfl, trivial⟩ ?_
  exact loop _ 0 rfl (Nat.zero_le _)

theorem r_about {G : GT} {C : AH} {Q : QT} {X : XT} {m T n : Nat} {S : Nat → Nat} {ρ : Rw} {L : List Rw} {K : Nat → Option Rw} {w : Int32} (hO : GO G) (hT : T ≤ 40000) (hR : RM T C m (S, n, ρ, L, K)) (hq : ∀ (r : Int32) (f : Nat → Nat → Int32), RM (T) (wI C f) m (aAbout (S, n, ρ, L, K) w).2.2 → (∀ a, (a < m ∨ m + 14 ≤ a) → f a = gI C a) → f m 0 = nI (aAbout (S, n, ρ, L, K) w).1 → ((aAbout (S, n, ρ, L, K) w).1 = 0 → r = (aAbout (S, n, ρ, L, K) w).2.1) → Q (some (.int r)) (wI C f)) : Mt G M_X5_about [.ref m, .int w] C Q X := by
  refine Mt_of (by decide) (Nat.le_of_ble_eq_true rfl) ?_
  obtain ⟨hk, hM, hv⟩ := id hR
  obtain ⟨hm0, ⟨g1, g6, g7, g8, g9, g10, g12, g13, g14, g15, g16, g17, g18⟩, k1, k2, k3, k4, k5, k6, k7, k8, k9, k10, k11, k12, k13, hmz⟩ := id hM
  obtain ⟨vn, vS, vN, vA, vH, vK⟩ : gI C m 2 = nI n ∧ (∀ i, i < n → gI C (m + 1) i = nI (S i)) ∧ Vr (gI C) (m + 4) ρ ∧ gI C m 11 = nI L.length ∧ (∀ i σ, L[i]? = some σ → Vo (gI C) (m + 6) (74 * i) σ) ∧ ∀ i, i < 2 → (K i = none → gI C (m + 8) i = 0) ∧ ∀ σ, K i = some σ → gI C (m + 8) i = 1 ∧ Vo (gI C) (m + 7) (74 * i) σ := hv
  obtain ⟨ok1, ok2, ok3, ok4, ok5, ok6⟩ : Ok T ρ ∧ (∀ σ, σ ∈ L → Ok T σ) ∧ (∀ i σ, K i = some σ → Ok T σ) ∧ n ≤ 120 ∧ (∀ i, i < n → S i < 256) ∧ L.length ≤ 14 := hk
  obtain ⟨hW, hB⟩ := id ok1
  obtain ⟨hb0, hb3, hb4, hb5, hb6, hb7⟩ := id hB
  obtain ⟨w1, w2, w7, w8, w9, w10, w11, w11', w12, wB, wP⟩ := id hW
  refine x_aload_n dX5_about_0 rfl ?_
  refine x_iload_n dX5_about_1 rfl ?_
  refine x_i2l dX5_about_2 ?_
  refine x_lconst (v := 0) dX5_about_3 (by decide) ?_
  refine x_ldc2 hO.1 dX5_about_4 k_X5_58 ?_
  refine x_callS (As := [_, _, _]) hO dX5_about_7 o_X5_in s_X5_in l_X5_118 ⟨by decide, by decide⟩ ⟨by decide, by decide⟩ rfl rfl (Nat.le_of_ble_eq_true rfl) (r_inI (a := nI 0) (b := nI 10) hO (by decide) (by decide) (fun r7 hr7 => ?_))
  dsimp only [Option.toList, List.cons_append, List.nil_append]
  refine x_if_eq (tgt := 17) dX5_about_10 (by decide) (fun c10 => ?_) (fun c10 => ?_)
  · have p7 := (ite01 hr7).1 c10
    refine x_iconst (v := nI 1) dX5_about_17 (by decide) ?_
    refine x_callV (As := [_]) 7 hO dX5_about_18 o_X5_refused v_X5_refused l_X5_137 ⟨by decide, by decide⟩ (by first | (simp only [gK_wI]; assumption) | assumption) ⟨by decide, by decide⟩ rfl ⟨by decide, by decide⟩ rfl rfl (Nat.le_of_ble_eq_true rfl) (t_ref hO hR (by decide) (fun r18 f18 hr18 z18 hR1 fr18 => ?_))
    dsimp only [Option.toList, List.cons_append, List.nil_append]
    refine x_if_eq (tgt := 26) dX5_about_21 (by decide) (fun c21 => ?_) (fun c21 => ?_)
    · exact absurd (c21.symm.trans (hr18.trans (if_pos (by decide)))) (by decide)
    · have p18 := (ite01 hr18).2 c21
      refine x_iconst (v := nI 0) dX5_about_24 (by decide) ?_
      refine x_iret dX5_about_25 rfl rfl ?_
      have eA : aAbout (S, n, ρ, L, K) w = (1, 0, (S, n, ρ, L, K)) := if_neg p7
      refine hq _ f18 ?_ (fun a ha => fr18 a (by omega)) ?_ ?_
      · rw [eA]
        exact hR1
      · rw [eA]
        exact z18
      · rw [eA]
        exact fun h => absurd h (Nat.succ_ne_zero _)
  · have p7 := (ite01 hr7).2 c10
    refine x_iconst (v := nI 0) dX5_about_13 (by decide) ?_
    refine x_goto (tgt := 18) dX5_about_14 (by decide) ?_
    refine x_callV (As := [_]) 7 hO dX5_about_18 o_X5_refused v_X5_refused l_X5_137 ⟨by decide, by decide⟩ (by first | (simp only [gK_wI]; assumption) | assumption) ⟨by decide, by decide⟩ rfl ⟨by decide, by decide⟩ rfl rfl (Nat.le_of_ble_eq_true rfl) (t_ref hO hR (by decide) (fun r18 f18 hr18 z18 hR1 fr18 => ?_))
    dsimp only [Option.toList, List.cons_append, List.nil_append]
    refine x_if_eq (tgt := 26) dX5_about_21 (by decide) (fun c21 => ?_) (fun c21 => ?_)
    · have p18 := (ite01 hr18).1 c21
      obtain ⟨k, y0, y9, rfl⟩ := (rng (by decide) (by decide)).mp p7
      obtain ⟨hk, hM, hv⟩ := id hR1
      obtain ⟨hm0, ⟨g1, g6, g7, g8, g9, g10, g12, g13, g14, g15, g16, g17, g18⟩, k1, k2, k3, k4, k5, k6, k7, k8, k9, k10, k11, k12, k13, hmz⟩ := id hM
      obtain ⟨vn, vS, vN, vA, vH, vK⟩ : f18 m 2 = nI n ∧ (∀ i, i < n → f18 (m + 1) i = nI (S i)) ∧ Vr (f18) (m + 4) ρ ∧ f18 m 11 = nI L.length ∧ (∀ i σ, L[i]? = some σ → Vo (f18) (m + 6) (74 * i) σ) ∧ ∀ i, i < 2 → (K i = none → f18 (m + 8) i = 0) ∧ ∀ σ, K i = some σ → f18 (m + 8) i = 1 ∧ Vo (f18) (m + 7) (74 * i) σ := hv
      obtain ⟨ok1, ok2, ok3, ok4, ok5, ok6⟩ : Ok T ρ ∧ (∀ σ, σ ∈ L → Ok T σ) ∧ (∀ i σ, K i = some σ → Ok T σ) ∧ n ≤ 120 ∧ (∀ i, i < n → S i < 256) ∧ L.length ≤ 14 := hk
      obtain ⟨hW, hB⟩ := id ok1
      obtain ⟨hb0, hb3, hb4, hb5, hb6, hb7⟩ := id hB
      obtain ⟨w1, w2, w7, w8, w9, w10, w11, w11', w12, wB, wP⟩ := id hW
      have eA : aAbout (S, n, ρ, L, K) (nI k) = (0, abV ρ k, (S, n, ρ, L, K)) := by
        unfold aAbout
        rw [if_pos p7, nI_clamp (by omega)]
      refine x_iload_n dX5_about_26 rfl ?_
      rcases (show k = 0 ∨ k = 1 ∨ k = 2 ∨ k = 3 ∨ k = 4 ∨ k = 5 ∨ k = 6 ∨ k = 7 ∨ k = 8 ∨ k = 9 ∨ k = 10 by omega) with rfl | rfl | rfl | rfl | rfl | rfl | rfl | rfl | rfl | rfl | rfl
      · refine x_tableIn (off := 53) (tgt := 80) dX5_about_27 (by decide +kernel) (by decide +kernel) (by decide +kernel) (by decide) ?_
        refine x_aload_n dX5_about_80 rfl ?_
        refine x_get 7 hO dX5_about_81 f_X5_19 (by first | (simp only [gK_wI]; assumption) | assumption) ⟨by decide, by decide⟩ (v := .ref (m + 4)) (congrArg va_rf g8) ?_
        refine x_iconst (v := nI 1) dX5_about_84 (by decide) ?_
        refine x_row _ hO dX5_about_85 k4 vN rfl (by omega) ?_
        refine x_iret dX5_about_86 rfl rfl ?_
        refine hq _ f18 ?_ (fun a ha => fr18 a (by omega)) ?_ ?_
        · rw [eA]
          exact hR1
        · rw [eA]
          exact z18
        · rw [eA]
          exact fun _ => rfl
      · refine x_tableIn (off := 60) (tgt := 87) dX5_about_27 (by decide +kernel) (by decide +kernel) (by decide +kernel) (by decide) ?_
        refine x_aload_n dX5_about_87 rfl ?_
        refine x_get 7 hO dX5_about_88 f_X5_19 (by first | (simp only [gK_wI]; assumption) | assumption) ⟨by decide, by decide⟩ (v := .ref (m + 4)) (congrArg va_rf g8) ?_
        refine x_iconst (v := nI 2) dX5_about_91 (by decide) ?_
        refine x_row _ hO dX5_about_92 k4 vN rfl (by omega) ?_
        refine x_iret dX5_about_93 rfl rfl ?_
        refine hq _ f18 ?_ (fun a ha => fr18 a (by omega)) ?_ ?_
        · rw [eA]
          exact hR1
        · rw [eA]
          exact z18
        · rw [eA]
          exact fun _ => rfl
      · refine x_tableIn (off := 67) (tgt := 94) dX5_about_27 (by decide +kernel) (by decide +kernel) (by decide +kernel) (by decide) ?_
        refine x_aload_n dX5_about_94 rfl ?_
        refine x_get 7 hO dX5_about_95 f_X5_19 (by first | (simp only [gK_wI]; assumption) | assumption) ⟨by decide, by decide⟩ (v := .ref (m + 4)) (congrArg va_rf g8) ?_
        refine x_iconst (v := nI 0) dX5_about_98 (by decide) ?_
        refine x_row _ hO dX5_about_99 k4 vN rfl (by omega) ?_
        refine x_iret dX5_about_100 rfl rfl ?_
        refine hq _ f18 ?_ (fun a ha => fr18 a (by omega)) ?_ ?_
        · rw [eA]
          exact hR1
        · rw [eA]
          exact z18
        · rw [eA]
          exact fun _ => rfl
      · refine x_tableIn (off := 74) (tgt := 101) dX5_about_27 (by decide +kernel) (by decide +kernel) (by decide +kernel) (by decide) ?_
        refine x_aload_n dX5_about_101 rfl ?_
        refine x_get 7 hO dX5_about_102 f_X5_19 (by first | (simp only [gK_wI]; assumption) | assumption) ⟨by decide, by decide⟩ (v := .ref (m + 4)) (congrArg va_rf g8) ?_
        refine x_iconst (v := nI 3) dX5_about_105 (by decide) ?_
        refine x_row _ hO dX5_about_106 k4 vN rfl (by omega) ?_
        refine x_iret dX5_about_107 rfl rfl ?_
        refine hq _ f18 ?_ (fun a ha => fr18 a (by omega)) ?_ ?_
        · rw [eA]
          exact hR1
        · rw [eA]
          exact z18
        · rw [eA]
          exact fun _ => rfl
      · refine x_tableIn (off := 81) (tgt := 108) dX5_about_27 (by decide +kernel) (by decide +kernel) (by decide +kernel) (by decide) ?_
        refine x_aload_n dX5_about_108 rfl ?_
        refine x_get 7 hO dX5_about_109 f_X5_19 (by first | (simp only [gK_wI]; assumption) | assumption) ⟨by decide, by decide⟩ (v := .ref (m + 4)) (congrArg va_rf g8) ?_
        refine x_iconst (v := nI 4) dX5_about_112 (by decide) ?_
        refine x_row _ hO dX5_about_113 k4 vN rfl (by omega) ?_
        refine x_iret dX5_about_114 rfl rfl ?_
        refine hq _ f18 ?_ (fun a ha => fr18 a (by omega)) ?_ ?_
        · rw [eA]
          exact hR1
        · rw [eA]
          exact z18
        · rw [eA]
          exact fun _ => rfl
      · refine x_tableIn (off := 88) (tgt := 115) dX5_about_27 (by decide +kernel) (by decide +kernel) (by decide +kernel) (by decide) ?_
        refine x_aload_n dX5_about_115 rfl ?_
        refine x_get 7 hO dX5_about_116 f_X5_19 (by first | (simp only [gK_wI]; assumption) | assumption) ⟨by decide, by decide⟩ (v := .ref (m + 4)) (congrArg va_rf g8) ?_
        refine x_iconst (v := nI 5) dX5_about_119 (by decide) ?_
        refine x_row _ hO dX5_about_120 k4 vN rfl (by omega) ?_
        refine x_iret dX5_about_121 rfl rfl ?_
        refine hq _ f18 ?_ (fun a ha => fr18 a (by omega)) ?_ ?_
        · rw [eA]
          exact hR1
        · rw [eA]
          exact z18
        · rw [eA]
          exact fun _ => rfl
      · refine x_tableIn (off := 95) (tgt := 122) dX5_about_27 (by decide +kernel) (by decide +kernel) (by decide +kernel) (by decide) ?_
        refine x_aload_n dX5_about_122 rfl ?_
        refine x_get 7 hO dX5_about_123 f_X5_19 (by first | (simp only [gK_wI]; assumption) | assumption) ⟨by decide, by decide⟩ (v := .ref (m + 4)) (congrArg va_rf g8) ?_
        refine x_bipush (v := nI 6) dX5_about_126 (by decide) ?_
        refine x_row _ hO dX5_about_128 k4 vN rfl (by omega) ?_
        refine x_iret dX5_about_129 rfl rfl ?_
        refine hq _ f18 ?_ (fun a ha => fr18 a (by omega)) ?_ ?_
        · rw [eA]
          exact hR1
        · rw [eA]
          exact z18
        · rw [eA]
          exact fun _ => rfl
      · refine x_tableIn (off := 119) (tgt := 146) dX5_about_27 (by decide +kernel) (by decide +kernel) (by decide +kernel) (by decide) ?_
        refine x_aload_n dX5_about_146 rfl ?_
        refine x_iload_n dX5_about_147 rfl ?_
        refine x_callV (As := [_]) 7 hO dX5_about_148 o_X5_sumOf v_X5_sumOf l_X5_208 ⟨by decide, by decide⟩ (by first | (simp only [gK_wI]; assumption) | assumption) ⟨by decide, by decide⟩ rfl ⟨by decide, by decide⟩ rfl rfl (Nat.le_of_ble_eq_true rfl) (r_sumOf hO hM vN hW (by decide) ?_)
        dsimp only [Option.toList, List.cons_append, List.nil_append]
        refine x_iret dX5_about_151 rfl rfl ?_
        refine hq _ f18 ?_ (fun a ha => fr18 a (by omega)) ?_ ?_
        · rw [eA]
          exact hR1
        · rw [eA]
          exact z18
        · rw [eA]
          exact fun _ => rfl
      · refine x_tableIn (off := 119) (tgt := 146) dX5_about_27 (by decide +kernel) (by decide +kernel) (by decide +kernel) (by decide) ?_
        refine x_aload_n dX5_about_146 rfl ?_
        refine x_iload_n dX5_about_147 rfl ?_
        refine x_callV (As := [_]) 7 hO dX5_about_148 o_X5_sumOf v_X5_sumOf l_X5_208 ⟨by decide, by decide⟩ (by first | (simp only [gK_wI]; assumption) | assumption) ⟨by decide, by decide⟩ rfl ⟨by decide, by decide⟩ rfl rfl (Nat.le_of_ble_eq_true rfl) (r_sumOf hO hM vN hW (by decide) ?_)
        dsimp only [Option.toList, List.cons_append, List.nil_append]
        refine x_iret dX5_about_151 rfl rfl ?_
        refine hq _ f18 ?_ (fun a ha => fr18 a (by omega)) ?_ ?_
        · rw [eA]
          exact hR1
        · rw [eA]
          exact z18
        · rw [eA]
          exact fun _ => rfl
      · refine x_tableIn (off := 103) (tgt := 130) dX5_about_27 (by decide +kernel) (by decide +kernel) (by decide +kernel) (by decide) ?_
        refine x_aload_n dX5_about_130 rfl ?_
        refine x_get 7 hO dX5_about_131 f_X5_19 (by first | (simp only [gK_wI]; assumption) | assumption) ⟨by decide, by decide⟩ (v := .ref (m + 4)) (congrArg va_rf g8) ?_
        refine x_callS (As := [_]) hO dX5_about_134 o_X5_isNight s_X5_isNight l_X5_93 ⟨by decide, by decide⟩ ⟨by decide, by decide⟩ rfl rfl (Nat.le_of_ble_eq_true rfl) (r_isNight hO k4 vN w12 (by omega) (fun r134 hr134 => ?_))
        dsimp only [Option.toList, List.cons_append, List.nil_append]
        refine x_if_eq (tgt := 144) dX5_about_137 (by decide) (fun c137 => ?_) (fun c137 => ?_)
        · have p134 := (ite01 hr134).1 c137
          refine x_iconst (v := nI 0) dX5_about_144 (by decide) ?_
          refine x_iret dX5_about_145 rfl rfl ?_
          refine hq _ f18 ?_ (fun a ha => fr18 a (by omega)) ?_ ?_
          · rw [eA]
            exact hR1
          · rw [eA]
            exact z18
          · rw [eA]
            exact fun _ => (by show _ = (if nite ρ then 1 else 0); first | exact (if_pos p134).symm | exact (if_neg p134).symm)
        · have p134 := (ite01 hr134).2 c137
          refine x_iconst (v := nI 1) dX5_about_140 (by decide) ?_
          refine x_goto (tgt := 145) dX5_about_141 (by decide) ?_
          refine x_iret dX5_about_145 rfl rfl ?_
          refine hq _ f18 ?_ (fun a ha => fr18 a (by omega)) ?_ ?_
          · rw [eA]
            exact hR1
          · rw [eA]
            exact z18
          · rw [eA]
            exact fun _ => (by show _ = (if nite ρ then 1 else 0); first | exact (if_pos p134).symm | exact (if_neg p134).symm)
      · refine x_tableOut (tgt := 146) dX5_about_27 (by decide +kernel) (by decide) ?_
        refine x_aload_n dX5_about_146 rfl ?_
        refine x_iload_n dX5_about_147 rfl ?_
        refine x_callV (As := [_]) 7 hO dX5_about_148 o_X5_sumOf v_X5_sumOf l_X5_208 ⟨by decide, by decide⟩ (by first | (simp only [gK_wI]; assumption) | assumption) ⟨by decide, by decide⟩ rfl ⟨by decide, by decide⟩ rfl rfl (Nat.le_of_ble_eq_true rfl) (r_sumOf hO hM vN hW (by decide) ?_)
        dsimp only [Option.toList, List.cons_append, List.nil_append]
        refine x_iret dX5_about_151 rfl rfl ?_
        refine hq _ f18 ?_ (fun a ha => fr18 a (by omega)) ?_ ?_
        · rw [eA]
          exact hR1
        · rw [eA]
          exact z18
        · rw [eA]
          exact fun _ => rfl
    · exact absurd (hr18.trans (if_neg (by decide))) c21

theorem r_bus {G : GT} {C : AH} {Q : QT} {X : XT} {m T n : Nat} {S : Nat → Nat} {ρ : Rw} {L : List Rw} {K : Nat → Option Rw} {b w : Int32} (hO : GO G) (hT : T ≤ 40000) (hR : RM T C m (S, n, ρ, L, K)) (hq : ∀ (r : Int32) (f : Nat → Nat → Int32), RM (T) (wI C f) m (aBus (S, n, ρ, L, K) b w).2.2 → (∀ a, (a < m ∨ m + 14 ≤ a) → f a = gI C a) → f m 0 = nI (aBus (S, n, ρ, L, K) b w).1 → ((aBus (S, n, ρ, L, K) b w).1 = 0 → r = (aBus (S, n, ρ, L, K) b w).2.1) → Q (some (.int r)) (wI C f)) : Mt G M_X5_bus [.ref m, .int b, .int w] C Q X := by
  refine Mt_of (by decide) (Nat.le_of_ble_eq_true rfl) ?_
  obtain ⟨hk, hM, hv⟩ := id hR
  obtain ⟨hm0, ⟨g1, g6, g7, g8, g9, g10, g12, g13, g14, g15, g16, g17, g18⟩, k1, k2, k3, k4, k5, k6, k7, k8, k9, k10, k11, k12, k13, hmz⟩ := id hM
  obtain ⟨vn, vS, vN, vA, vH, vK⟩ : gI C m 2 = nI n ∧ (∀ i, i < n → gI C (m + 1) i = nI (S i)) ∧ Vr (gI C) (m + 4) ρ ∧ gI C m 11 = nI L.length ∧ (∀ i σ, L[i]? = some σ → Vo (gI C) (m + 6) (74 * i) σ) ∧ ∀ i, i < 2 → (K i = none → gI C (m + 8) i = 0) ∧ ∀ σ, K i = some σ → gI C (m + 8) i = 1 ∧ Vo (gI C) (m + 7) (74 * i) σ := hv
  obtain ⟨ok1, ok2, ok3, ok4, ok5, ok6⟩ : Ok T ρ ∧ (∀ σ, σ ∈ L → Ok T σ) ∧ (∀ i σ, K i = some σ → Ok T σ) ∧ n ≤ 120 ∧ (∀ i, i < n → S i < 256) ∧ L.length ≤ 14 := hk
  obtain ⟨hW, hB⟩ := id ok1
  obtain ⟨hb0, hb3, hb4, hb5, hb6, hb7⟩ := id hB
  obtain ⟨w1, w2, w7, w8, w9, w10, w11, w11', w12, wB, wP⟩ := id hW
  refine x_aload_n dX5_bus_0 rfl ?_
  refine x_aload_n dX5_bus_1 rfl ?_
  refine x_iload_n dX5_bus_2 rfl ?_
  refine x_callV (As := [_]) 7 hO dX5_bus_3 o_X5_isBus v_X5_isBus l_X5_212 ⟨by decide, by decide⟩ (by first | (simp only [gK_wI]; assumption) | assumption) ⟨by decide, by decide⟩ rfl ⟨by decide, by decide⟩ rfl rfl (Nat.le_of_ble_eq_true rfl) (r_isBus hO hM vN (fun r3 hr3 => ?_))
  dsimp only [Option.toList, List.cons_append, List.nil_append]
  refine x_if_ne (tgt := 13) dX5_bus_6 (by decide) (fun c6 => ?_) (fun c6 => ?_)
  · have p3 := (ite01 hr3).2 c6
    obtain ⟨j, hj, rfl⟩ := (ix_of (by omega)).mp p3
    refine x_iload_n dX5_bus_13 rfl ?_
    refine x_i2l dX5_bus_14 ?_
    refine x_lconst (v := 0) dX5_bus_15 (by decide) ?_
    refine x_ldc2 hO.1 dX5_bus_16 k_X5_147 ?_
    refine x_callS (As := [_, _, _]) hO dX5_bus_19 o_X5_in s_X5_in l_X5_118 ⟨by decide, by decide⟩ ⟨by decide, by decide⟩ rfl rfl (Nat.le_of_ble_eq_true rfl) (r_inI (a := nI 0) (b := nI 9) hO (by decide) (by decide) (fun r19 hr19 => ?_))
    dsimp only [Option.toList, List.cons_append, List.nil_append]
    refine x_if_eq (tgt := 29) dX5_bus_22 (by decide) (fun c22 => ?_) (fun c22 => ?_)
    · have p19 := (ite01 hr19).1 c22
      refine x_iconst (v := nI 2) dX5_bus_29 (by decide) ?_
      refine x_callV (As := [_]) 7 hO dX5_bus_30 o_X5_refused v_X5_refused l_X5_137 ⟨by decide, by decide⟩ (by first | (simp only [gK_wI]; assumption) | assumption) ⟨by decide, by decide⟩ rfl ⟨by decide, by decide⟩ rfl rfl (Nat.le_of_ble_eq_true rfl) (t_ref hO hR (by decide) (fun r30 f30 hr30 z30 hR1 fr30 => ?_))
      dsimp only [Option.toList, List.cons_append, List.nil_append]
      refine x_if_eq (tgt := 38) dX5_bus_33 (by decide) (fun c33 => ?_) (fun c33 => ?_)
      · exact absurd (c33.symm.trans (hr30.trans (if_pos (by decide)))) (by decide)
      · have p30 := (ite01 hr30).2 c33
        refine x_iconst (v := nI 0) dX5_bus_36 (by decide) ?_
        refine x_iret dX5_bus_37 rfl rfl ?_
        have eA : aBus (S, n, ρ, L, K) (nI j) w = (2, 0, (S, n, ρ, L, K)) := (if_pos p3).trans (if_neg p19)
        refine hq _ f30 ?_ (fun a ha => fr30 a (by omega)) ?_ ?_
        · rw [eA]
          exact hR1
        · rw [eA]
          exact z30
        · rw [eA]
          exact fun h => absurd h (Nat.succ_ne_zero _)
    · have p19 := (ite01 hr19).2 c22
      refine x_iconst (v := nI 0) dX5_bus_25 (by decide) ?_
      refine x_goto (tgt := 30) dX5_bus_26 (by decide) ?_
      refine x_callV (As := [_]) 7 hO dX5_bus_30 o_X5_refused v_X5_refused l_X5_137 ⟨by decide, by decide⟩ (by first | (simp only [gK_wI]; assumption) | assumption) ⟨by decide, by decide⟩ rfl ⟨by decide, by decide⟩ rfl rfl (Nat.le_of_ble_eq_true rfl) (t_ref hO hR (by decide) (fun r30 f30 hr30 z30 hR1 fr30 => ?_))
      dsimp only [Option.toList, List.cons_append, List.nil_append]
      refine x_if_eq (tgt := 38) dX5_bus_33 (by decide) (fun c33 => ?_) (fun c33 => ?_)
      · have p30 := (ite01 hr30).1 c33
        obtain ⟨k, y0, y9, rfl⟩ := (rng (by decide) (by decide)).mp p19
        obtain ⟨hk, hM, hv⟩ := id hR1
        obtain ⟨hm0, ⟨g1, g6, g7, g8, g9, g10, g12, g13, g14, g15, g16, g17, g18⟩, k1, k2, k3, k4, k5, k6, k7, k8, k9, k10, k11, k12, k13, hmz⟩ := id hM
        obtain ⟨vn, vS, vN, vA, vH, vK⟩ : f30 m 2 = nI n ∧ (∀ i, i < n → f30 (m + 1) i = nI (S i)) ∧ Vr (f30) (m + 4) ρ ∧ f30 m 11 = nI L.length ∧ (∀ i σ, L[i]? = some σ → Vo (f30) (m + 6) (74 * i) σ) ∧ ∀ i, i < 2 → (K i = none → f30 (m + 8) i = 0) ∧ ∀ σ, K i = some σ → f30 (m + 8) i = 1 ∧ Vo (f30) (m + 7) (74 * i) σ := hv
        obtain ⟨ok1, ok2, ok3, ok4, ok5, ok6⟩ : Ok T ρ ∧ (∀ σ, σ ∈ L → Ok T σ) ∧ (∀ i σ, K i = some σ → Ok T σ) ∧ n ≤ 120 ∧ (∀ i, i < n → S i < 256) ∧ L.length ≤ 14 := hk
        obtain ⟨hW, hB⟩ := id ok1
        obtain ⟨hb0, hb3, hb4, hb5, hb6, hb7⟩ := id hB
        obtain ⟨w1, w2, w7, w8, w9, w10, w11, w11', w12, wB, wP⟩ := id hW
        obtain ⟨b0, b0', b1, b2, b2', b3, b4, b34, b6⟩ := wB j hj
        have eA : aBus (S, n, ρ, L, K) (nI j) (nI k) = (0, busV ρ j k, (S, n, ρ, L, K)) := by
          unfold aBus
          rw [if_pos p3, if_pos p19, nI_clamp (show j < 2 ^ 31 by omega), nI_clamp (by omega)]
        refine x_aload_n dX5_bus_38 rfl ?_
        refine x_callV (As := []) 7 hO dX5_bus_39 o_X5_tryIt v_X5_tryIt l_X5_215 ⟨by decide, by decide⟩ (by first | (simp only [gK_wI]; assumption) | assumption) ⟨by decide, by decide⟩ rfl ⟨by decide, by decide⟩ rfl rfl (Nat.le_of_ble_eq_true rfl) (r_tryIt hO hT hR1 (fun f39 v39 r39 => ?_))
        dsimp only [Option.toList, List.cons_append, List.nil_append]
        refine x_aload_n dX5_bus_42 rfl ?_
        refine x_callV (As := []) 7 hO dX5_bus_43 o_X5_layTrial v_X5_layTrial l_X5_218 ⟨by decide, by decide⟩ (by first | (simp only [gK_wI]; assumption) | assumption) ⟨by decide, by decide⟩ rfl ⟨by decide, by decide⟩ rfl rfl (Nat.le_of_ble_eq_true rfl) (r_layTrial hO hM v39 ok1 (by omega) (fun f43 v43 y43 l43 r43 => ?_))
        dsimp only [Option.toList, List.cons_append, List.nil_append]
        simp only [gI_wI] at r39 r43
        try simp only [wI_wI, gI_wI]
        have SF : ∀ a, (a < m + 2 ∨ a = m + 4 ∨ (m + 6 ≤ a ∧ a ≤ m + 8) ∨ m + 14 ≤ a) → f43 a = f30 a := fun a ha => (r43 a (by omega) (by omega)).trans (r39 a (by omega))
        have vN4 : Vr f43 (m + 4) ρ := Vr_to vN (SF _ (by omega))
        refine x_iload_n dX5_bus_46 rfl ?_
        rcases (show k = 0 ∨ k = 1 ∨ k = 2 ∨ k = 3 ∨ k = 4 ∨ k = 5 ∨ k = 6 ∨ k = 7 ∨ k = 8 ∨ k = 9 by omega) with rfl | rfl | rfl | rfl | rfl | rfl | rfl | rfl | rfl | rfl
        · refine x_tableOut (tgt := 95) dX5_bus_47 (by decide +kernel) (by decide) ?_
          refine x_aload_n dX5_bus_95 rfl ?_
          refine x_get 7 hO dX5_bus_96 f_X5_19 (by first | (simp only [gK_wI]; assumption) | assumption) ⟨by decide, by decide⟩ (v := .ref (m + 4)) (congrArg va_rf g8) ?_
          refine x_iload_n dX5_bus_99 rfl ?_
          refine x_iload_n dX5_bus_100 rfl ?_
          refine x_callS (As := [_, _]) hO dX5_bus_101 o_X5_busAt s_X5_busAt l_X5_67 ⟨by decide, by decide⟩ ⟨by decide, by decide⟩ rfl rfl (Nat.le_of_ble_eq_true rfl) (r_busAt hO ?_)
          dsimp only [Option.toList, List.cons_append, List.nil_append]
          refine x_row _ hO dX5_bus_104 k4 vN4 rfl (by simp only [bi]; omega) ?_
          refine x_iret dX5_bus_105 rfl rfl ?_
          refine hq _ f43 ?_ (fun a ha => (SF a (by omega)).trans (fr30 a (by omega))) ?_ ?_
          · rw [eA]
            exact RM_scr hR1 SF
          · rw [eA]
            exact (congrFun (SF m (by omega)) 0).trans z30
          · rw [eA]
            exact fun _ => rfl
        · refine x_tableOut (tgt := 95) dX5_bus_47 (by decide +kernel) (by decide) ?_
          refine x_aload_n dX5_bus_95 rfl ?_
          refine x_get 7 hO dX5_bus_96 f_X5_19 (by first | (simp only [gK_wI]; assumption) | assumption) ⟨by decide, by decide⟩ (v := .ref (m + 4)) (congrArg va_rf g8) ?_
          refine x_iload_n dX5_bus_99 rfl ?_
          refine x_iload_n dX5_bus_100 rfl ?_
          refine x_callS (As := [_, _]) hO dX5_bus_101 o_X5_busAt s_X5_busAt l_X5_67 ⟨by decide, by decide⟩ ⟨by decide, by decide⟩ rfl rfl (Nat.le_of_ble_eq_true rfl) (r_busAt hO ?_)
          dsimp only [Option.toList, List.cons_append, List.nil_append]
          refine x_row _ hO dX5_bus_104 k4 vN4 rfl (by simp only [bi]; omega) ?_
          refine x_iret dX5_bus_105 rfl rfl ?_
          refine hq _ f43 ?_ (fun a ha => (SF a (by omega)).trans (fr30 a (by omega))) ?_ ?_
          · rw [eA]
            exact RM_scr hR1 SF
          · rw [eA]
            exact (congrFun (SF m (by omega)) 0).trans z30
          · rw [eA]
            exact fun _ => rfl
        · refine x_tableOut (tgt := 95) dX5_bus_47 (by decide +kernel) (by decide) ?_
          refine x_aload_n dX5_bus_95 rfl ?_
          refine x_get 7 hO dX5_bus_96 f_X5_19 (by first | (simp only [gK_wI]; assumption) | assumption) ⟨by decide, by decide⟩ (v := .ref (m + 4)) (congrArg va_rf g8) ?_
          refine x_iload_n dX5_bus_99 rfl ?_
          refine x_iload_n dX5_bus_100 rfl ?_
          refine x_callS (As := [_, _]) hO dX5_bus_101 o_X5_busAt s_X5_busAt l_X5_67 ⟨by decide, by decide⟩ ⟨by decide, by decide⟩ rfl rfl (Nat.le_of_ble_eq_true rfl) (r_busAt hO ?_)
          dsimp only [Option.toList, List.cons_append, List.nil_append]
          refine x_row _ hO dX5_bus_104 k4 vN4 rfl (by simp only [bi]; omega) ?_
          refine x_iret dX5_bus_105 rfl rfl ?_
          refine hq _ f43 ?_ (fun a ha => (SF a (by omega)).trans (fr30 a (by omega))) ?_ ?_
          · rw [eA]
            exact RM_scr hR1 SF
          · rw [eA]
            exact (congrFun (SF m (by omega)) 0).trans z30
          · rw [eA]
            exact fun _ => rfl
        · refine x_tableOut (tgt := 95) dX5_bus_47 (by decide +kernel) (by decide) ?_
          refine x_aload_n dX5_bus_95 rfl ?_
          refine x_get 7 hO dX5_bus_96 f_X5_19 (by first | (simp only [gK_wI]; assumption) | assumption) ⟨by decide, by decide⟩ (v := .ref (m + 4)) (congrArg va_rf g8) ?_
          refine x_iload_n dX5_bus_99 rfl ?_
          refine x_iload_n dX5_bus_100 rfl ?_
          refine x_callS (As := [_, _]) hO dX5_bus_101 o_X5_busAt s_X5_busAt l_X5_67 ⟨by decide, by decide⟩ ⟨by decide, by decide⟩ rfl rfl (Nat.le_of_ble_eq_true rfl) (r_busAt hO ?_)
          dsimp only [Option.toList, List.cons_append, List.nil_append]
          refine x_row _ hO dX5_bus_104 k4 vN4 rfl (by simp only [bi]; omega) ?_
          refine x_iret dX5_bus_105 rfl rfl ?_
          refine hq _ f43 ?_ (fun a ha => (SF a (by omega)).trans (fr30 a (by omega))) ?_ ?_
          · rw [eA]
            exact RM_scr hR1 SF
          · rw [eA]
            exact (congrFun (SF m (by omega)) 0).trans z30
          · rw [eA]
            exact fun _ => rfl
        · refine x_tableOut (tgt := 95) dX5_bus_47 (by decide +kernel) (by decide) ?_
          refine x_aload_n dX5_bus_95 rfl ?_
          refine x_get 7 hO dX5_bus_96 f_X5_19 (by first | (simp only [gK_wI]; assumption) | assumption) ⟨by decide, by decide⟩ (v := .ref (m + 4)) (congrArg va_rf g8) ?_
          refine x_iload_n dX5_bus_99 rfl ?_
          refine x_iload_n dX5_bus_100 rfl ?_
          refine x_callS (As := [_, _]) hO dX5_bus_101 o_X5_busAt s_X5_busAt l_X5_67 ⟨by decide, by decide⟩ ⟨by decide, by decide⟩ rfl rfl (Nat.le_of_ble_eq_true rfl) (r_busAt hO ?_)
          dsimp only [Option.toList, List.cons_append, List.nil_append]
          refine x_row _ hO dX5_bus_104 k4 vN4 rfl (by simp only [bi]; omega) ?_
          refine x_iret dX5_bus_105 rfl rfl ?_
          refine hq _ f43 ?_ (fun a ha => (SF a (by omega)).trans (fr30 a (by omega))) ?_ ?_
          · rw [eA]
            exact RM_scr hR1 SF
          · rw [eA]
            exact (congrFun (SF m (by omega)) 0).trans z30
          · rw [eA]
            exact fun _ => rfl
        · refine x_tableOut (tgt := 95) dX5_bus_47 (by decide +kernel) (by decide) ?_
          refine x_aload_n dX5_bus_95 rfl ?_
          refine x_get 7 hO dX5_bus_96 f_X5_19 (by first | (simp only [gK_wI]; assumption) | assumption) ⟨by decide, by decide⟩ (v := .ref (m + 4)) (congrArg va_rf g8) ?_
          refine x_iload_n dX5_bus_99 rfl ?_
          refine x_iload_n dX5_bus_100 rfl ?_
          refine x_callS (As := [_, _]) hO dX5_bus_101 o_X5_busAt s_X5_busAt l_X5_67 ⟨by decide, by decide⟩ ⟨by decide, by decide⟩ rfl rfl (Nat.le_of_ble_eq_true rfl) (r_busAt hO ?_)
          dsimp only [Option.toList, List.cons_append, List.nil_append]
          refine x_row _ hO dX5_bus_104 k4 vN4 rfl (by simp only [bi]; omega) ?_
          refine x_iret dX5_bus_105 rfl rfl ?_
          refine hq _ f43 ?_ (fun a ha => (SF a (by omega)).trans (fr30 a (by omega))) ?_ ?_
          · rw [eA]
            exact RM_scr hR1 SF
          · rw [eA]
            exact (congrFun (SF m (by omega)) 0).trans z30
          · rw [eA]
            exact fun _ => rfl
        · refine x_tableOut (tgt := 95) dX5_bus_47 (by decide +kernel) (by decide) ?_
          refine x_aload_n dX5_bus_95 rfl ?_
          refine x_get 7 hO dX5_bus_96 f_X5_19 (by first | (simp only [gK_wI]; assumption) | assumption) ⟨by decide, by decide⟩ (v := .ref (m + 4)) (congrArg va_rf g8) ?_
          refine x_iload_n dX5_bus_99 rfl ?_
          refine x_iload_n dX5_bus_100 rfl ?_
          refine x_callS (As := [_, _]) hO dX5_bus_101 o_X5_busAt s_X5_busAt l_X5_67 ⟨by decide, by decide⟩ ⟨by decide, by decide⟩ rfl rfl (Nat.le_of_ble_eq_true rfl) (r_busAt hO ?_)
          dsimp only [Option.toList, List.cons_append, List.nil_append]
          refine x_row _ hO dX5_bus_104 k4 vN4 rfl (by simp only [bi]; omega) ?_
          refine x_iret dX5_bus_105 rfl rfl ?_
          refine hq _ f43 ?_ (fun a ha => (SF a (by omega)).trans (fr30 a (by omega))) ?_ ?_
          · rw [eA]
            exact RM_scr hR1 SF
          · rw [eA]
            exact (congrFun (SF m (by omega)) 0).trans z30
          · rw [eA]
            exact fun _ => rfl
        · refine x_tableIn (off := 25) (tgt := 72) dX5_bus_47 (by decide +kernel) (by decide +kernel) (by decide +kernel) (by decide) ?_
          refine x_aload_n dX5_bus_72 rfl ?_
          refine x_get 7 hO dX5_bus_73 f_X5_41 (by first | (simp only [gK_wI]; assumption) | assumption) ⟨by decide, by decide⟩ (v := .ref (m + 11)) (congrArg va_rf g16) ?_
          refine x_iload_n dX5_bus_76 rfl ?_
          refine x_iald j 8 hO dX5_bus_77 k11.1 rfl k11.2 (by omega) (by decide) ?_
          rw [show gI (wI C f43) (m + 11) j = nI ((pvw ρ).2.2.1 j) from y43.2.1 j (by omega)]
          refine x_iret dX5_bus_78 rfl rfl ?_
          refine hq _ f43 ?_ (fun a ha => (SF a (by omega)).trans (fr30 a (by omega))) ?_ ?_
          · rw [eA]
            exact RM_scr hR1 SF
          · rw [eA]
            exact (congrFun (SF m (by omega)) 0).trans z30
          · rw [eA]
            exact fun _ => rfl
        · refine x_tableIn (off := 32) (tgt := 79) dX5_bus_47 (by decide +kernel) (by decide +kernel) (by decide +kernel) (by decide) ?_
          refine x_aload_n dX5_bus_79 rfl ?_
          refine x_get 7 hO dX5_bus_80 f_X5_44 (by first | (simp only [gK_wI]; assumption) | assumption) ⟨by decide, by decide⟩ (v := .ref (m + 12)) (congrArg va_rf g17) ?_
          refine x_iload_n dX5_bus_83 rfl ?_
          refine x_iald j 8 hO dX5_bus_84 k12.1 rfl k12.2 (by omega) (by decide) ?_
          rw [show gI (wI C f43) (m + 12) j = enc ((pvw ρ).2.2.2.1 j) from y43.2.2.1 j (by omega)]
          refine x_iret dX5_bus_85 rfl rfl ?_
          refine hq _ f43 ?_ (fun a ha => (SF a (by omega)).trans (fr30 a (by omega))) ?_ ?_
          · rw [eA]
            exact RM_scr hR1 SF
          · rw [eA]
            exact (congrFun (SF m (by omega)) 0).trans z30
          · rw [eA]
            exact fun _ => rfl
        · refine x_tableIn (off := 39) (tgt := 86) dX5_bus_47 (by decide +kernel) (by decide +kernel) (by decide +kernel) (by decide) ?_
          refine x_aload_n dX5_bus_86 rfl ?_
          refine x_get 7 hO dX5_bus_87 f_X5_19 (by first | (simp only [gK_wI]; assumption) | assumption) ⟨by decide, by decide⟩ (v := .ref (m + 4)) (congrArg va_rf g8) ?_
          refine x_iload_n dX5_bus_90 rfl ?_
          refine x_callS (As := [_, _]) hO dX5_bus_91 o_X5_hoursLeft s_X5_hoursLeft l_X5_82 ⟨by decide, by decide⟩ ⟨by decide, by decide⟩ rfl rfl (Nat.le_of_ble_eq_true rfl) (r_hoursLeft hO k4 vN4 (by omega) b3 (by omega) ?_)
          dsimp only [Option.toList, List.cons_append, List.nil_append]
          refine x_iret dX5_bus_94 rfl rfl ?_
          refine hq _ f43 ?_ (fun a ha => (SF a (by omega)).trans (fr30 a (by omega))) ?_ ?_
          · rw [eA]
            exact RM_scr hR1 SF
          · rw [eA]
            exact (congrFun (SF m (by omega)) 0).trans z30
          · rw [eA]
            exact fun _ => rfl
      · exact absurd (hr30.trans (if_neg (by decide))) c33
  · have p3 := (ite01 hr3).1 c6
    refine x_iconst (v := nI 1) dX5_bus_9 (by decide) ?_
    refine x_goto (tgt := 30) dX5_bus_10 (by decide) ?_
    refine x_callV (As := [_]) 7 hO dX5_bus_30 o_X5_refused v_X5_refused l_X5_137 ⟨by decide, by decide⟩ (by first | (simp only [gK_wI]; assumption) | assumption) ⟨by decide, by decide⟩ rfl ⟨by decide, by decide⟩ rfl rfl (Nat.le_of_ble_eq_true rfl) (t_ref hO hR (by decide) (fun r30 f30 hr30 z30 hR1 fr30 => ?_))
    dsimp only [Option.toList, List.cons_append, List.nil_append]
    refine x_if_eq (tgt := 38) dX5_bus_33 (by decide) (fun c33 => ?_) (fun c33 => ?_)
    · exact absurd (c33.symm.trans (hr30.trans (if_pos (by decide)))) (by decide)
    · have p30 := (ite01 hr30).2 c33
      refine x_iconst (v := nI 0) dX5_bus_36 (by decide) ?_
      refine x_iret dX5_bus_37 rfl rfl ?_
      have eA : aBus (S, n, ρ, L, K) b w = (1, 0, (S, n, ρ, L, K)) := if_neg p3
      refine hq _ f30 ?_ (fun a ha => fr30 a (by omega)) ?_ ?_
      · rw [eA]
        exact hR1
      · rw [eA]
        exact z30
      · rw [eA]
        exact fun h => absurd h (Nat.succ_ne_zero _)

def PlI (l : List Nat) (c k p : Nat) : Prop := (∃ i, i < k ∧ l.getD i 0 = c ∧ p = i) ∨ ∀ i, i < k → l.getD i 0 ≠ c
theorem PlI_0 {l : List Nat} {c : Nat} : PlI l c 0 0 := Or.inr fun i hi => absurd hi (Nat.not_lt_zero i)
theorem PlI_y {l : List Nat} {c k : Nat} (h : l.getD k 0 = c) : PlI l c (k + 1) k := Or.inl ⟨k, Nat.lt_succ_self k, h, rfl⟩
theorem PlI_n {l : List Nat} {c k p : Nat} (hp : PlI l c k p) (h : ¬ l.getD k 0 = c) : PlI l c (k + 1) p := by
  rcases hp with ⟨i, h1, h2, h3⟩ | hp
  · exact Or.inl ⟨i, Nat.lt_succ_of_lt h1, h2, h3⟩
  · refine Or.inr fun i hi => ?_
    by_cases e : i = k
    · subst e; exact h
    · exact hp i (by omega)
theorem PlI_e {ρ : Rw} {c p : Nat} (hW : Wf ρ) (hc : c < ρ 2) (hp : PlI (ordL ρ) c (ρ 2) p) : plc (ordL ρ) c = p := by
  obtain ⟨hl, hnd, hmem⟩ := ordL_ok hW
  rcases hp with ⟨i, h1, h2, h3⟩ | h
  · rw [h3]
    refine plc_eq (by rw [hl]; exact h1) h2 (fun q hq q2 => ?_)
    have := nd_get hnd (by rw [hl]; omega) (by rw [hl]; omega) (q2.trans h2.symm)
    omega
  · obtain ⟨i, hi, hie⟩ := List.mem_iff_getElem.mp (hmem c hc)
    rw [hl] at hi
    refine absurd ?_ (h i hi)
    rw [List.getD_eq_getElem?_getD, List.getElem?_eq_getElem (by rw [hl]; exact hi)]
    exact hie
theorem r_placeOf {G : GT} {C : AH} {Q : QT} {X : XT} {m c : Nat} {ρ : Rw} (hO : GO G) (hM : MdS C m) (hV : Vr (gI C) (m + 4) ρ) (hW : Wf ρ) (hL : Lst (gI C (m + 9)) (ordL ρ)) (hc : c < ρ 2) (hq : Q (some (.int (nI (plc (ordL ρ) c)))) C) : Mt G M_X5_placeOf [.ref m, .int (nI c)] C Q X := by
  refine Mt_of (by decide) (Nat.le_of_ble_eq_true rfl) ?_
  obtain ⟨hm0, ⟨g1, g6, g7, g8, g9, g10, g12, g13, g14, g15, g16, g17, g18⟩, k1, k2, k3, k4, k5, k6, k7, k8, k9, k10, k11, k12, k13, hmz⟩ := id hM
  have w2 : ρ 2 ≤ 5 := hW.2.1
  have hl := (ordL_ok hW).1
  have loop : ∀ (m9 k p : Nat), ρ 2 - k = m9 → k ≤ ρ 2 → PlI (ordL ρ) c k p → Ex G M_X5_placeOf Q X (mC M_X5_placeOf) (mS M_X5_placeOf) 4 [(0, .ref m), (1, .int (nI c)), (2, .int (nI p)), (3, .int (nI k))] [] C := by
    intro m9
    induction m9 using Nat.strongRecOn with
    | _ m9 ih =>
      intro k p hm9 hk hp
      refine x_iload_n dX5_placeOf_4 rfl ?_
      refine x_aload_n dX5_placeOf_5 rfl ?_
      refine x_get 7 hO dX5_placeOf_6 f_X5_19 (by first | (simp only [gK_wI]; assumption) | assumption) ⟨by decide, by decide⟩ (v := .ref (m + 4)) (congrArg va_rf g8) ?_
      refine x_iconst (v := nI 2) dX5_placeOf_9 (by decide) ?_
      refine x_row 2 hO dX5_placeOf_10 k4 hV rfl (by decide) ?_
      refine x_icmp_ge (tgt := 36) dX5_placeOf_11 (by decide) (fun c11 => ?_) (fun c11 => ?_)
      · simp (disch := omega) only [nI_leI] at c11
        refine x_iload_n dX5_placeOf_36 rfl ?_
        refine x_iret dX5_placeOf_37 rfl rfl ?_
        have : k = ρ 2 := by omega
        subst this
        rw [PlI_e hW hc hp] at hq
        exact hq
      · simp (disch := omega) only [nI_leI] at c11
        have hk8 : k < ρ 2 := by omega
        have hq9 := ordL_lt hk8
        refine x_aload_n dX5_placeOf_14 rfl ?_
        refine x_get 7 hO dX5_placeOf_15 f_X5_35 (by first | (simp only [gK_wI]; assumption) | assumption) ⟨by decide, by decide⟩ (v := .ref (m + 9)) (congrArg va_rf g14) ?_
        refine x_iload_n dX5_placeOf_18 rfl ?_
        refine x_iald k 5 hO dX5_placeOf_19 k9.1 rfl k9.2 (by omega) (by decide) ?_
        rw [hL k (by rw [hl]; exact hk8)]
        refine x_iload_n dX5_placeOf_20 rfl ?_
        refine x_icmp_ne (tgt := 28) dX5_placeOf_21 (by decide) (fun c21 => ?_) (fun c21 => ?_)
        · simp (disch := omega) only [nI_eq] at c21
          refine x_iload_n dX5_placeOf_28 rfl ?_
          refine x_istore_n dX5_placeOf_29 (by decide) ?_
          refine x_iinc (v := nI 1) dX5_placeOf_30 rfl (by decide) (by decide) ?_
          refine x_goto (tgt := 4) dX5_placeOf_33 (by decide) ?_
          first
            | (refine x_ls [(0, .ref m), (1, .int (nI c)), (2, .int (nI k)), (3, .int (nI (k + 1)))] ⟨rfl, rfl, rfl, (by rw [← nI_add]; rfl), trivial⟩ ?_
               exact ih (m9 - 1) (by omega) (k + 1) k (by omega) (by omega) (PlI_y c21))
            | (refine x_ls [(0, .ref m), (1, .int (nI c)), (2, .int (nI p)), (3, .int (nI (k + 1)))] ⟨rfl, rfl, rfl, (by rw [← nI_add]; rfl), trivial⟩ ?_
               exact ih (m9 - 1) (by omega) (k + 1) p (by omega) (by omega) (PlI_n hp c21))
        · simp (disch := omega) only [nI_eq] at c21
          refine x_iload_n dX5_placeOf_24 rfl ?_
          refine x_goto (tgt := 29) dX5_placeOf_25 (by decide) ?_
          refine x_istore_n dX5_placeOf_29 (by decide) ?_
          refine x_iinc (v := nI 1) dX5_placeOf_30 rfl (by decide) (by decide) ?_
          refine x_goto (tgt := 4) dX5_placeOf_33 (by decide) ?_
          first
            | (refine x_ls [(0, .ref m), (1, .int (nI c)), (2, .int (nI k)), (3, .int (nI (k + 1)))] ⟨rfl, rfl, rfl, (by rw [← nI_add]; rfl), trivial⟩ ?_
               exact ih (m9 - 1) (by omega) (k + 1) k (by omega) (by omega) (PlI_y c21))
            | (refine x_ls [(0, .ref m), (1, .int (nI c)), (2, .int (nI p)), (3, .int (nI (k + 1)))] ⟨rfl, rfl, rfl, (by rw [← nI_add]; rfl), trivial⟩ ?_
               exact ih (m9 - 1) (by omega) (k + 1) p (by omega) (by omega) (PlI_n hp c21))
  refine x_iconst (v := nI 0) dX5_placeOf_0 (by decide) ?_
  refine x_istore_n dX5_placeOf_1 (by decide) ?_
  refine x_iconst (v := nI 0) dX5_placeOf_2 (by decide) ?_
  refine x_istore_n dX5_placeOf_3 (by decide) ?_
  refine x_ls [(0, .ref m), (1, .int (nI c)), (2, .int (nI 0)), (3, .int (nI 0))] ⟨rfl, rfl, rfl, rfl, trivial⟩ ?_
  exact loop _ 0 0 rfl (Nat.zero_le _) PlI_0

theorem r_charger {G : GT} {C : AH} {Q : QT} {X : XT} {m T n : Nat} {S : Nat → Nat} {ρ : Rw} {L : List Rw} {K : Nat → Option Rw} {c w : Int32} (hO : GO G) (hT : T ≤ 40000) (hR : RM T C m (S, n, ρ, L, K)) (hq : ∀ (r : Int32) (f : Nat → Nat → Int32), RM (T) (wI C f) m (aCharger (S, n, ρ, L, K) c w).2.2 → (∀ a, (a < m ∨ m + 14 ≤ a) → f a = gI C a) → f m 0 = nI (aCharger (S, n, ρ, L, K) c w).1 → ((aCharger (S, n, ρ, L, K) c w).1 = 0 → r = (aCharger (S, n, ρ, L, K) c w).2.1) → Q (some (.int r)) (wI C f)) : Mt G M_X5_charger [.ref m, .int c, .int w] C Q X := by
  refine Mt_of (by decide) (Nat.le_of_ble_eq_true rfl) ?_
  obtain ⟨hk, hM, hv⟩ := id hR
  obtain ⟨hm0, ⟨g1, g6, g7, g8, g9, g10, g12, g13, g14, g15, g16, g17, g18⟩, k1, k2, k3, k4, k5, k6, k7, k8, k9, k10, k11, k12, k13, hmz⟩ := id hM
  obtain ⟨vn, vS, vN, vA, vH, vK⟩ : gI C m 2 = nI n ∧ (∀ i, i < n → gI C (m + 1) i = nI (S i)) ∧ Vr (gI C) (m + 4) ρ ∧ gI C m 11 = nI L.length ∧ (∀ i σ, L[i]? = some σ → Vo (gI C) (m + 6) (74 * i) σ) ∧ ∀ i, i < 2 → (K i = none → gI C (m + 8) i = 0) ∧ ∀ σ, K i = some σ → gI C (m + 8) i = 1 ∧ Vo (gI C) (m + 7) (74 * i) σ := hv
  obtain ⟨ok1, ok2, ok3, ok4, ok5, ok6⟩ : Ok T ρ ∧ (∀ σ, σ ∈ L → Ok T σ) ∧ (∀ i σ, K i = some σ → Ok T σ) ∧ n ≤ 120 ∧ (∀ i, i < n → S i < 256) ∧ L.length ≤ 14 := hk
  obtain ⟨hW, hB⟩ := id ok1
  obtain ⟨hb0, hb3, hb4, hb5, hb6, hb7⟩ := id hB
  obtain ⟨w1, w2, w7, w8, w9, w10, w11, w11', w12, wB, wP⟩ := id hW
  refine x_aload_n dX5_charger_0 rfl ?_
  refine x_aload_n dX5_charger_1 rfl ?_
  refine x_iload_n dX5_charger_2 rfl ?_
  refine x_callV (As := [_]) 7 hO dX5_charger_3 o_X5_isPlug v_X5_isPlug l_X5_221 ⟨by decide, by decide⟩ (by first | (simp only [gK_wI]; assumption) | assumption) ⟨by decide, by decide⟩ rfl ⟨by decide, by decide⟩ rfl rfl (Nat.le_of_ble_eq_true rfl) (r_isPlug hO hM vN (fun r3 hr3 => ?_))
  dsimp only [Option.toList, List.cons_append, List.nil_append]
  refine x_if_ne (tgt := 13) dX5_charger_6 (by decide) (fun c6 => ?_) (fun c6 => ?_)
  · have p3 := (ite01 hr3).2 c6
    obtain ⟨c, hj, rfl⟩ := (ix_of (by omega)).mp p3
    refine x_iload_n dX5_charger_13 rfl ?_
    refine x_i2l dX5_charger_14 ?_
    refine x_lconst (v := 0) dX5_charger_15 (by decide) ?_
    refine x_ldc2 hO.1 dX5_charger_16 k_X5_224 ?_
    refine x_callS (As := [_, _, _]) hO dX5_charger_19 o_X5_in s_X5_in l_X5_118 ⟨by decide, by decide⟩ ⟨by decide, by decide⟩ rfl rfl (Nat.le_of_ble_eq_true rfl) (r_inI (a := nI 0) (b := nI 2) hO (by decide) (by decide) (fun r19 hr19 => ?_))
    dsimp only [Option.toList, List.cons_append, List.nil_append]
    refine x_if_eq (tgt := 29) dX5_charger_22 (by decide) (fun c22 => ?_) (fun c22 => ?_)
    · have p19 := (ite01 hr19).1 c22
      refine x_iconst (v := nI 2) dX5_charger_29 (by decide) ?_
      refine x_callV (As := [_]) 7 hO dX5_charger_30 o_X5_refused v_X5_refused l_X5_137 ⟨by decide, by decide⟩ (by first | (simp only [gK_wI]; assumption) | assumption) ⟨by decide, by decide⟩ rfl ⟨by decide, by decide⟩ rfl rfl (Nat.le_of_ble_eq_true rfl) (t_ref hO hR (by decide) (fun r30 f30 hr30 z30 hR1 fr30 => ?_))
      dsimp only [Option.toList, List.cons_append, List.nil_append]
      refine x_if_eq (tgt := 38) dX5_charger_33 (by decide) (fun c33 => ?_) (fun c33 => ?_)
      · exact absurd (c33.symm.trans (hr30.trans (if_pos (by decide)))) (by decide)
      · have p30 := (ite01 hr30).2 c33
        refine x_iconst (v := nI 0) dX5_charger_36 (by decide) ?_
        refine x_iret dX5_charger_37 rfl rfl ?_
        have eA : aCharger (S, n, ρ, L, K) (nI c) w = (2, 0, (S, n, ρ, L, K)) := (if_pos p3).trans (if_neg p19)
        refine hq _ f30 ?_ (fun a ha => fr30 a (by omega)) ?_ ?_
        · rw [eA]
          exact hR1
        · rw [eA]
          exact z30
        · rw [eA]
          exact fun h => absurd h (Nat.succ_ne_zero _)
    · have p19 := (ite01 hr19).2 c22
      refine x_iconst (v := nI 0) dX5_charger_25 (by decide) ?_
      refine x_goto (tgt := 30) dX5_charger_26 (by decide) ?_
      refine x_callV (As := [_]) 7 hO dX5_charger_30 o_X5_refused v_X5_refused l_X5_137 ⟨by decide, by decide⟩ (by first | (simp only [gK_wI]; assumption) | assumption) ⟨by decide, by decide⟩ rfl ⟨by decide, by decide⟩ rfl rfl (Nat.le_of_ble_eq_true rfl) (t_ref hO hR (by decide) (fun r30 f30 hr30 z30 hR1 fr30 => ?_))
      dsimp only [Option.toList, List.cons_append, List.nil_append]
      refine x_if_eq (tgt := 38) dX5_charger_33 (by decide) (fun c33 => ?_) (fun c33 => ?_)
      · have p30 := (ite01 hr30).1 c33
        obtain ⟨k, y0, y9, rfl⟩ := (rng (by decide) (by decide)).mp p19
        obtain ⟨hk, hM, hv⟩ := id hR1
        obtain ⟨hm0, ⟨g1, g6, g7, g8, g9, g10, g12, g13, g14, g15, g16, g17, g18⟩, k1, k2, k3, k4, k5, k6, k7, k8, k9, k10, k11, k12, k13, hmz⟩ := id hM
        obtain ⟨vn, vS, vN, vA, vH, vK⟩ : f30 m 2 = nI n ∧ (∀ i, i < n → f30 (m + 1) i = nI (S i)) ∧ Vr (f30) (m + 4) ρ ∧ f30 m 11 = nI L.length ∧ (∀ i σ, L[i]? = some σ → Vo (f30) (m + 6) (74 * i) σ) ∧ ∀ i, i < 2 → (K i = none → f30 (m + 8) i = 0) ∧ ∀ σ, K i = some σ → f30 (m + 8) i = 1 ∧ Vo (f30) (m + 7) (74 * i) σ := hv
        obtain ⟨ok1, ok2, ok3, ok4, ok5, ok6⟩ : Ok T ρ ∧ (∀ σ, σ ∈ L → Ok T σ) ∧ (∀ i σ, K i = some σ → Ok T σ) ∧ n ≤ 120 ∧ (∀ i, i < n → S i < 256) ∧ L.length ≤ 14 := hk
        obtain ⟨hW, hB⟩ := id ok1
        obtain ⟨hb0, hb3, hb4, hb5, hb6, hb7⟩ := id hB
        obtain ⟨w1, w2, w7, w8, w9, w10, w11, w11', w12, wB, wP⟩ := id hW
        have eA : aCharger (S, n, ρ, L, K) (nI c) (nI k) = (0, chV ρ c k, (S, n, ρ, L, K)) := by
          unfold aCharger
          rw [if_pos p3, if_pos p19, nI_clamp (show c < 2 ^ 31 by omega), nI_clamp (by omega)]
        refine x_aload_n dX5_charger_38 rfl ?_
        refine x_callV (As := []) 7 hO dX5_charger_39 o_X5_tryIt v_X5_tryIt l_X5_215 ⟨by decide, by decide⟩ (by first | (simp only [gK_wI]; assumption) | assumption) ⟨by decide, by decide⟩ rfl ⟨by decide, by decide⟩ rfl rfl (Nat.le_of_ble_eq_true rfl) (r_tryIt hO hT hR1 (fun f39 v39 r39 => ?_))
        dsimp only [Option.toList, List.cons_append, List.nil_append]
        refine x_aload_n dX5_charger_42 rfl ?_
        refine x_callV (As := []) 7 hO dX5_charger_43 o_X5_layTrial v_X5_layTrial l_X5_218 ⟨by decide, by decide⟩ (by first | (simp only [gK_wI]; assumption) | assumption) ⟨by decide, by decide⟩ rfl ⟨by decide, by decide⟩ rfl rfl (Nat.le_of_ble_eq_true rfl) (r_layTrial hO hM v39 ok1 (by omega) (fun f43 v43 y43 l43 r43 => ?_))
        dsimp only [Option.toList, List.cons_append, List.nil_append]
        simp only [gI_wI] at r39 r43
        try simp only [wI_wI, gI_wI]
        have SF : ∀ a, (a < m + 2 ∨ a = m + 4 ∨ (m + 6 ≤ a ∧ a ≤ m + 8) ∨ m + 14 ≤ a) → f43 a = f30 a := fun a ha => (r43 a (by omega) (by omega)).trans (r39 a (by omega))
        have vN4 : Vr f43 (m + 4) ρ := Vr_to vN (SF _ (by omega))
        refine x_iload_n dX5_charger_46 rfl ?_
        refine x_if_ne (tgt := 62) dX5_charger_47 (by decide) (fun c47 => ?_) (fun c47 => ?_)
        · simp (disch := omega) only [nI_z] at c47
          refine x_iload_n dX5_charger_62 rfl ?_
          refine x_iconst (v := nI 1) dX5_charger_63 (by decide) ?_
          refine x_icmp_ne (tgt := 75) dX5_charger_64 (by decide) (fun c64 => ?_) (fun c64 => ?_)
          · simp (disch := omega) only [nI_eq] at c64
            refine x_aload_n dX5_charger_75 rfl ?_
            refine x_get 7 hO dX5_charger_76 f_X5_38 (by first | (simp only [gK_wI]; assumption) | assumption) ⟨by decide, by decide⟩ (v := .ref (m + 10)) (congrArg va_rf g15) ?_
            refine x_iload_n dX5_charger_79 rfl ?_
            refine x_iald c 5 hO dX5_charger_80 k10.1 rfl k10.2 (by omega) (by decide) ?_
            rw [show gI (wI C f43) (m + 10) c = enc ((pvw ρ).2.2.2.2 c) from y43.2.2.2 c (by omega)]
            refine x_iret dX5_charger_81 rfl rfl ?_
            refine hq _ f43 ?_ (fun a ha => (SF a (by omega)).trans (fr30 a (by omega))) ?_ ?_
            · rw [eA]
              exact RM_scr hR1 SF
            · rw [eA]
              exact (congrFun (SF m (by omega)) 0).trans z30
            · rw [eA]
              exact fun _ => by
                first
                  | (rw [show k = 0 by omega]; rfl)
                  | (rw [show k = 1 by omega]; rfl)
                  | (rw [show k = 2 by omega]; rfl)
          · simp (disch := omega) only [nI_eq] at c64
            refine x_aload_n dX5_charger_67 rfl ?_
            refine x_iload_n dX5_charger_68 rfl ?_
            refine x_callV (As := [_]) 7 hO dX5_charger_69 o_X5_placeOf v_X5_placeOf l_X5_226 ⟨by decide, by decide⟩ (by first | (simp only [gK_wI]; assumption) | assumption) ⟨by decide, by decide⟩ rfl ⟨by decide, by decide⟩ rfl rfl (Nat.le_of_ble_eq_true rfl) (r_placeOf (C := wI C f43) hO (MdS_wI hM) vN4 hW l43 hj ?_)
            dsimp only [Option.toList, List.cons_append, List.nil_append]
            refine x_goto (tgt := 81) dX5_charger_72 (by decide) ?_
            refine x_iret dX5_charger_81 rfl rfl ?_
            refine hq _ f43 ?_ (fun a ha => (SF a (by omega)).trans (fr30 a (by omega))) ?_ ?_
            · rw [eA]
              exact RM_scr hR1 SF
            · rw [eA]
              exact (congrFun (SF m (by omega)) 0).trans z30
            · rw [eA]
              exact fun _ => by
                first
                  | (rw [show k = 0 by omega]; rfl)
                  | (rw [show k = 1 by omega]; rfl)
                  | (rw [show k = 2 by omega]; rfl)
        · simp (disch := omega) only [nI_z] at c47
          refine x_aload_n dX5_charger_50 rfl ?_
          refine x_get 7 hO dX5_charger_51 f_X5_19 (by first | (simp only [gK_wI]; assumption) | assumption) ⟨by decide, by decide⟩ (v := .ref (m + 4)) (congrArg va_rf g8) ?_
          refine x_bipush (v := nI 69) dX5_charger_54 (by decide) ?_
          refine x_iload_n dX5_charger_56 rfl ?_
          refine x_iadd dX5_charger_57 ?_
          refine x_row (69 + c) hO dX5_charger_58 k4 vN4 (nI_add _ _) (by omega) ?_
          refine x_goto (tgt := 81) dX5_charger_59 (by decide) ?_
          refine x_iret dX5_charger_81 rfl rfl ?_
          refine hq _ f43 ?_ (fun a ha => (SF a (by omega)).trans (fr30 a (by omega))) ?_ ?_
          · rw [eA]
            exact RM_scr hR1 SF
          · rw [eA]
            exact (congrFun (SF m (by omega)) 0).trans z30
          · rw [eA]
            exact fun _ => by
              first
                | (rw [show k = 0 by omega]; rfl)
                | (rw [show k = 1 by omega]; rfl)
                | (rw [show k = 2 by omega]; rfl)
      · exact absurd (hr30.trans (if_neg (by decide))) c33
  · have p3 := (ite01 hr3).1 c6
    refine x_iconst (v := nI 1) dX5_charger_9 (by decide) ?_
    refine x_goto (tgt := 30) dX5_charger_10 (by decide) ?_
    refine x_callV (As := [_]) 7 hO dX5_charger_30 o_X5_refused v_X5_refused l_X5_137 ⟨by decide, by decide⟩ (by first | (simp only [gK_wI]; assumption) | assumption) ⟨by decide, by decide⟩ rfl ⟨by decide, by decide⟩ rfl rfl (Nat.le_of_ble_eq_true rfl) (t_ref hO hR (by decide) (fun r30 f30 hr30 z30 hR1 fr30 => ?_))
    dsimp only [Option.toList, List.cons_append, List.nil_append]
    refine x_if_eq (tgt := 38) dX5_charger_33 (by decide) (fun c33 => ?_) (fun c33 => ?_)
    · exact absurd (c33.symm.trans (hr30.trans (if_pos (by decide)))) (by decide)
    · have p30 := (ite01 hr30).2 c33
      refine x_iconst (v := nI 0) dX5_charger_36 (by decide) ?_
      refine x_iret dX5_charger_37 rfl rfl ?_
      have eA : aCharger (S, n, ρ, L, K) c w = (1, 0, (S, n, ρ, L, K)) := if_neg p3
      refine hq _ f30 ?_ (fun a ha => fr30 a (by omega)) ?_ ?_
      · rw [eA]
        exact hR1
      · rw [eA]
        exact z30
      · rw [eA]
        exact fun h => absurd h (Nat.succ_ne_zero _)

