/-! the reference: a sign *)-/
theorem sg_get {ρ : Rw} {j k lc lm lz : Nat} (hj : j < 8) (h1 : (dgs (ρ (bi j 1))).length = lc) (h2 : (mrk (ρ (bi j 1))).length = lm) (h3 : (dgs (ρ (bi j 0))).length = lz) : (0 ≤ k → k < 1 → (sgL ρ j).getD k 0 = 98) ∧ (1 ≤ k → k < 2 → (sgL ρ j).getD k 0 = 48 + j) ∧ (2 ≤ k → k < 3 → (sgL ρ j).getD k 0 = 32) ∧ (3 ≤ k → k < 3 + lc → (sgL ρ j).getD k 0 = (dgs (ρ (bi j 1))).getD (k - 3) 0) ∧ (3 + lc ≤ k → k < 3 + lc + lm → (sgL ρ j).getD k 0 = 33) ∧ (3 + lc + lm ≤ k → k < 3 + lc + lm + 1 → (sgL ρ j).getD k 0 = 47) ∧ (3 + lc + lm + 1 ≤ k → k < 3 + lc + lm + 1 + lz → (sgL ρ j).getD k 0 = (dgs (ρ (bi j 0))).getD (k - (3 + lc + lm + 1)) 0) ∧ (3 + lc + lm + 1 + lz ≤ k → k < 3 + lc + lm + 1 + lz + 1 → (sgL ρ j).getD k 0 = 32) ∧ (3 + lc + lm + 1 + lz + 1 ≤ k → (sgL ρ j).getD k 0 = (strW (wdi ρ j)).getD (k - (3 + lc + lm + 1 + lz + 1)) 0) := by
  have ej : dgs j = [48 + j] := if_pos (by omega)
  have eS : sgL ρ j = [98] ++ [48 + j] ++ [32] ++ dgs (ρ (bi j 1)) ++ mrk (ρ (bi j 1)) ++ [47] ++ dgs (ρ (bi j 0)) ++ [32] ++ strW (wdi ρ j) := by
    unfold sgL
    rw [ej]
  refine ⟨?_, ?_, ?_, ?_, ?_, ?_, ?_, ?_, ?_⟩
  · intro a b
    rw [eS, getD_ap, if_pos (by simp only [List.length_append, List.length_cons, List.length_nil, h1, h2, h3]; omega), getD_ap, if_pos (by simp only [List.length_append, List.length_cons, List.length_nil, h1, h2, h3]; omega), getD_ap, if_pos (by simp only [List.length_append, List.length_cons, List.length_nil, h1, h2, h3]; omega), getD_ap, if_pos (by simp only [List.length_append, List.length_cons, List.length_nil, h1, h2, h3]; omega), getD_ap, if_pos (by simp only [List.length_append, List.length_cons, List.length_nil, h1, h2, h3]; omega), getD_ap, if_pos (by simp only [List.length_append, List.length_cons, List.length_nil, h1, h2, h3]; omega), getD_ap, if_pos (by simp only [List.length_append, List.length_cons, List.length_nil, h1, h2, h3]; omega), getD_ap, if_pos (by simp only [List.length_append, List.length_cons, List.length_nil, h1, h2, h3]; omega)]
    rw [show k = 0 by omega]
    rfl
  · intro a b
    rw [eS, getD_ap, if_pos (by simp only [List.length_append, List.length_cons, List.length_nil, h1, h2, h3]; omega), getD_ap, if_pos (by simp only [List.length_append, List.length_cons, List.length_nil, h1, h2, h3]; omega), getD_ap, if_pos (by simp only [List.length_append, List.length_cons, List.length_nil, h1, h2, h3]; omega), getD_ap, if_pos (by simp only [List.length_append, List.length_cons, List.length_nil, h1, h2, h3]; omega), getD_ap, if_pos (by simp only [List.length_append, List.length_cons, List.length_nil, h1, h2, h3]; omega), getD_ap, if_pos (by simp only [List.length_append, List.length_cons, List.length_nil, h1, h2, h3]; omega), getD_ap, if_pos (by simp only [List.length_append, List.length_cons, List.length_nil, h1, h2, h3]; omega), getD_ap, if_neg (by simp only [List.length_append, List.length_cons, List.length_nil, h1, h2, h3]; omega)]
    have e : ([98] : List Nat).length = 1 := by simp only [List.length_append, List.length_cons, List.length_nil, h1, h2, h3]
    rw [e]
    rw [show k - (1) = 0 by omega]
    rfl
  · intro a b
    rw [eS, getD_ap, if_pos (by simp only [List.length_append, List.length_cons, List.length_nil, h1, h2, h3]; omega), getD_ap, if_pos (by simp only [List.length_append, List.length_cons, List.length_nil, h1, h2, h3]; omega), getD_ap, if_pos (by simp only [List.length_append, List.length_cons, List.length_nil, h1, h2, h3]; omega), getD_ap, if_pos (by simp only [List.length_append, List.length_cons, List.length_nil, h1, h2, h3]; omega), getD_ap, if_pos (by simp only [List.length_append, List.length_cons, List.length_nil, h1, h2, h3]; omega), getD_ap, if_pos (by simp only [List.length_append, List.length_cons, List.length_nil, h1, h2, h3]; omega), getD_ap, if_neg (by simp only [List.length_append, List.length_cons, List.length_nil, h1, h2, h3]; omega)]
    have e : ([98] ++ [48 + j] : List Nat).length = 2 := by simp only [List.length_append, List.length_cons, List.length_nil, h1, h2, h3]
    rw [e]
    rw [show k - (2) = 0 by omega]
    rfl
  · intro a b
    rw [eS, getD_ap, if_pos (by simp only [List.length_append, List.length_cons, List.length_nil, h1, h2, h3]; omega), getD_ap, if_pos (by simp only [List.length_append, List.length_cons, List.length_nil, h1, h2, h3]; omega), getD_ap, if_pos (by simp only [List.length_append, List.length_cons, List.length_nil, h1, h2, h3]; omega), getD_ap, if_pos (by simp only [List.length_append, List.length_cons, List.length_nil, h1, h2, h3]; omega), getD_ap, if_pos (by simp only [List.length_append, List.length_cons, List.length_nil, h1, h2, h3]; omega), getD_ap, if_neg (by simp only [List.length_append, List.length_cons, List.length_nil, h1, h2, h3]; omega)]
    have e : ([98] ++ [48 + j] ++ [32] : List Nat).length = 3 := by simp only [List.length_append, List.length_cons, List.length_nil, h1, h2, h3]
    rw [e]
  · intro a b
    rw [eS, getD_ap, if_pos (by simp only [List.length_append, List.length_cons, List.length_nil, h1, h2, h3]; omega), getD_ap, if_pos (by simp only [List.length_append, List.length_cons, List.length_nil, h1, h2, h3]; omega), getD_ap, if_pos (by simp only [List.length_append, List.length_cons, List.length_nil, h1, h2, h3]; omega), getD_ap, if_pos (by simp only [List.length_append, List.length_cons, List.length_nil, h1, h2, h3]; omega), getD_ap, if_neg (by simp only [List.length_append, List.length_cons, List.length_nil, h1, h2, h3]; omega)]
    have e : ([98] ++ [48 + j] ++ [32] ++ dgs (ρ (bi j 1)) : List Nat).length = 3 + lc := by simp only [List.length_append, List.length_cons, List.length_nil, h1, h2, h3]
    rw [e]
    have hm : mrk (ρ (bi j 1)) = [33] := by
      unfold mrk at h2 ⊢
      split at h2
      · rename_i q; rw [if_pos q]
      · have h2 : 0 = lm := h2
        omega
    rw [hm] at h2 ⊢
    have h2 : 1 = lm := h2
    rw [show k - (3 + lc) = 0 by omega]
    rfl
  · intro a b
    rw [eS, getD_ap, if_pos (by simp only [List.length_append, List.length_cons, List.length_nil, h1, h2, h3]; omega), getD_ap, if_pos (by simp only [List.length_append, List.length_cons, List.length_nil, h1, h2, h3]; omega), getD_ap, if_pos (by simp only [List.length_append, List.length_cons, List.length_nil, h1, h2, h3]; omega), getD_ap, if_neg (by simp only [List.length_append, List.length_cons, List.length_nil, h1, h2, h3]; omega)]
    have e : ([98] ++ [48 + j] ++ [32] ++ dgs (ρ (bi j 1)) ++ mrk (ρ (bi j 1)) : List Nat).length = 3 + lc + lm := by simp only [List.length_append, List.length_cons, List.length_nil, h1, h2, h3]
    rw [e]
    rw [show k - (3 + lc + lm) = 0 by omega]
    rfl
  · intro a b
    rw [eS, getD_ap, if_pos (by simp only [List.length_append, List.length_cons, List.length_nil, h1, h2, h3]; omega), getD_ap, if_pos (by simp only [List.length_append, List.length_cons, List.length_nil, h1, h2, h3]; omega), getD_ap, if_neg (by simp only [List.length_append, List.length_cons, List.length_nil, h1, h2, h3]; omega)]
    have e : ([98] ++ [48 + j] ++ [32] ++ dgs (ρ (bi j 1)) ++ mrk (ρ (bi j 1)) ++ [47] : List Nat).length = 3 + lc + lm + 1 := by simp only [List.length_append, List.length_cons, List.length_nil, h1, h2, h3]
    rw [e]
  · intro a b
    rw [eS, getD_ap, if_pos (by simp only [List.length_append, List.length_cons, List.length_nil, h1, h2, h3]; omega), getD_ap, if_neg (by simp only [List.length_append, List.length_cons, List.length_nil, h1, h2, h3]; omega)]
    have e : ([98] ++ [48 + j] ++ [32] ++ dgs (ρ (bi j 1)) ++ mrk (ρ (bi j 1)) ++ [47] ++ dgs (ρ (bi j 0)) : List Nat).length = 3 + lc + lm + 1 + lz := by simp only [List.length_append, List.length_cons, List.length_nil, h1, h2, h3]
    rw [e]
    rw [show k - (3 + lc + lm + 1 + lz) = 0 by omega]
    rfl
  · intro a
    rw [eS, getD_ap, if_neg (by simp only [List.length_append, List.length_cons, List.length_nil, h1, h2, h3]; omega)]
    have e : ([98] ++ [48 + j] ++ [32] ++ dgs (ρ (bi j 1)) ++ mrk (ρ (bi j 1)) ++ [47] ++ dgs (ρ (bi j 0)) ++ [32] : List Nat).length = 3 + lc + lm + 1 + lz + 1 := by simp only [List.length_append, List.length_cons, List.length_nil, h1, h2, h3]
    rw [e]
theorem sg_len {ρ : Rw} {j lc lm lz : Nat} (hj : j < 8) (h1 : (dgs (ρ (bi j 1))).length = lc) (h2 : (mrk (ρ (bi j 1))).length = lm) (h3 : (dgs (ρ (bi j 0))).length = lz) : (sgL ρ j).length = 3 + lc + lm + 1 + lz + 1 + (strW (wdi ρ j)).length := by
  have ej : dgs j = [48 + j] := if_pos (by omega)
  unfold sgL
  rw [ej]
  simp only [List.length_append, List.length_cons, List.length_nil, h1, h2, h3]
theorem wdi_ge {ρ : Rw} {j : Nat} : 4 ≤ wdi ρ j := by
  unfold wdi
  split
  · exact Nat.le_refl 4
  · split
    · decide
    · split <;> decide
theorem r_sign {G : GT} {C : AH} {Q : QT} {X : XT} {m T n : Nat} {S : Nat → Nat} {ρ : Rw} {L : List Rw} {K : Nat → Option Rw} {b w : Int32} (hO : GO G) (hT : T ≤ 40000) (hR : RM T C m (S, n, ρ, L, K)) (hq : ∀ (r : Int32) (f : Nat → Nat → Int32), RM (T) (wI C f) m (aSign (S, n, ρ, L, K) b w).2.2 → (∀ a, (a < m ∨ m + 14 ≤ a) → f a = gI C a) → f m 0 = nI (aSign (S, n, ρ, L, K) b w).1 → ((aSign (S, n, ρ, L, K) b w).1 = 0 → r = (aSign (S, n, ρ, L, K) b w).2.1) → Q (some (.int r)) (wI C f)) : Mt G M_X5_sign [.ref m, .int b, .int w] C Q X := by
  refine Mt_of (by decide) (Nat.le_of_ble_eq_true rfl) ?_
  obtain ⟨hk, hM, hv⟩ := id hR
  obtain ⟨hm0, ⟨g1, g6, g7, g8, g9, g10, g12, g13, g14, g15, g16, g17, g18⟩, k1, k2, k3, k4, k5, k6, k7, k8, k9, k10, k11, k12, k13, hmz⟩ := id hM
  obtain ⟨vn, vS, vN, vA, vH, vK⟩ : gI C m 2 = nI n ∧ (∀ i, i < n → gI C (m + 1) i = nI (S i)) ∧ Vr (gI C) (m + 4) ρ ∧ gI C m 11 = nI L.length ∧ (∀ i σ, L[i]? = some σ → Vo (gI C) (m + 6) (74 * i) σ) ∧ ∀ i, i < 2 → (K i = none → gI C (m + 8) i = 0) ∧ ∀ σ, K i = some σ → gI C (m + 8) i = 1 ∧ Vo (gI C) (m + 7) (74 * i) σ := hv
  obtain ⟨ok1, ok2, ok3, ok4, ok5, ok6⟩ : Ok T ρ ∧ (∀ σ, σ ∈ L → Ok T σ) ∧ (∀ i σ, K i = some σ → Ok T σ) ∧ n ≤ 120 ∧ (∀ i, i < n → S i < 256) ∧ L.length ≤ 14 := hk
  obtain ⟨hW, hB⟩ := id ok1
  obtain ⟨hb0, hb3, hb4, hb5, hb6, hb7⟩ := id hB
  obtain ⟨w1, w2, w7, w8, w9, w10, w11, w11', w12, wB, wP⟩ := id hW
  refine x_aload_n dX5_sign_0 rfl ?_
  refine x_aload_n dX5_sign_1 rfl ?_
  refine x_iload_n dX5_sign_2 rfl ?_
  refine x_callV (As := [_]) 7 hO dX5_sign_3 o_X5_isBus v_X5_isBus l_X5_212 ⟨by decide, by decide⟩ (by first | (simp only [gK_wI]; assumption) | assumption) ⟨by decide, by decide⟩ rfl ⟨by decide, by decide⟩ rfl rfl (Nat.le_of_ble_eq_true rfl) (r_isBus hO hM vN (fun r3 hr3 => ?_))
  dsimp only [Option.toList, List.cons_append, List.nil_append]
  refine x_if_ne (tgt := 13) dX5_sign_6 (by decide) (fun c6 => ?_) (fun c6 => ?_)
  · have p3 := (ite01 hr3).2 c6
    obtain ⟨j, hj, rfl⟩ := (ix_of (by omega)).mp p3
    refine x_iload_n dX5_sign_13 rfl ?_
    refine x_if_ge (tgt := 21) dX5_sign_14 (by decide) (fun c14 => ?_) (fun c14 => ?_)
    · refine x_iconst (v := nI 0) dX5_sign_21 (by decide) ?_
      refine x_callV (As := [_]) 7 hO dX5_sign_22 o_X5_refused v_X5_refused l_X5_137 ⟨by decide, by decide⟩ (by first | (simp only [gK_wI]; assumption) | assumption) ⟨by decide, by decide⟩ rfl ⟨by decide, by decide⟩ rfl rfl (Nat.le_of_ble_eq_true rfl) (t_ref hO hR (by decide) (fun r22 f22 hr22 z22 hR1 fr22 => ?_))
      dsimp only [Option.toList, List.cons_append, List.nil_append]
      refine x_if_eq (tgt := 30) dX5_sign_25 (by decide) (fun c25 => ?_) (fun c25 => ?_)
      · have p22 := (ite01 hr22).1 c25
        obtain ⟨k, hk9, rfl⟩ := nn_of (show nI 0 ≤ w from c14)
        obtain ⟨hk, hM, hv⟩ := id hR1
        obtain ⟨hm0, ⟨g1, g6, g7, g8, g9, g10, g12, g13, g14, g15, g16, g17, g18⟩, k1, k2, k3, k4, k5, k6, k7, k8, k9, k10, k11, k12, k13, hmz⟩ := id hM
        obtain ⟨vn, vS, vN, vA, vH, vK⟩ : f22 m 2 = nI n ∧ (∀ i, i < n → f22 (m + 1) i = nI (S i)) ∧ Vr (f22) (m + 4) ρ ∧ f22 m 11 = nI L.length ∧ (∀ i σ, L[i]? = some σ → Vo (f22) (m + 6) (74 * i) σ) ∧ ∀ i, i < 2 → (K i = none → f22 (m + 8) i = 0) ∧ ∀ σ, K i = some σ → f22 (m + 8) i = 1 ∧ Vo (f22) (m + 7) (74 * i) σ := hv
        obtain ⟨ok1, ok2, ok3, ok4, ok5, ok6⟩ : Ok T ρ ∧ (∀ σ, σ ∈ L → Ok T σ) ∧ (∀ i σ, K i = some σ → Ok T σ) ∧ n ≤ 120 ∧ (∀ i, i < n → S i < 256) ∧ L.length ≤ 14 := hk
        obtain ⟨hW, hB⟩ := id ok1
        obtain ⟨hb0, hb3, hb4, hb5, hb6, hb7⟩ := id hB
        obtain ⟨w1, w2, w7, w8, w9, w10, w11, w11', w12, wB, wP⟩ := id hW
        have hj8 : j < 8 := by omega
        obtain ⟨u0, u1, u2, u3, u4, u5, u6, u7, u8⟩ := wB j hj
        have d1 := dgs_3 (v := ρ (bi j 1))
        have d0 := dgs_3 (v := ρ (bi j 0))
        have d1 := d1.2.2
        have d0 := d0.2.2
        have dw := wdi_len (ρ := ρ) (j := j)
        have dw4 := wdi_ge (ρ := ρ) (j := j)
        have dw8 := wdi_lt (ρ := ρ) (j := j)
        have eA : aSign (S, n, ρ, L, K) (nI j) (nI k) = (0, sgV ρ j k, (S, n, ρ, L, K)) := by
          unfold aSign
          rw [if_pos p3, if_pos (show nI 0 ≤ nI k from c14), nI_clamp (show j < 2 ^ 31 by omega), nI_clamp (by omega)]
        refine x_aload_n dX5_sign_30 rfl ?_
        refine x_get 7 hO dX5_sign_31 f_X5_19 (by first | (simp only [gK_wI]; assumption) | assumption) ⟨by decide, by decide⟩ (v := .ref (m + 4)) (congrArg va_rf g8) ?_
        refine x_iload_n dX5_sign_34 rfl ?_
        refine x_iconst (v := nI 1) dX5_sign_35 (by decide) ?_
        refine x_callS (As := [_, _]) hO dX5_sign_36 o_X5_busAt s_X5_busAt l_X5_67 ⟨by decide, by decide⟩ ⟨by decide, by decide⟩ rfl rfl (Nat.le_of_ble_eq_true rfl) (r_busAt hO ?_)
        dsimp only [Option.toList, List.cons_append, List.nil_append]
        refine x_row (bi j 1) hO dX5_sign_39 k4 vN rfl (by simp only [bi]; omega) ?_
        refine x_istore_n dX5_sign_40 (by decide) ?_
        refine x_aload_n dX5_sign_41 rfl ?_
        refine x_get 7 hO dX5_sign_42 f_X5_19 (by first | (simp only [gK_wI]; assumption) | assumption) ⟨by decide, by decide⟩ (v := .ref (m + 4)) (congrArg va_rf g8) ?_
        refine x_iload_n dX5_sign_45 rfl ?_
        refine x_iconst (v := nI 0) dX5_sign_46 (by decide) ?_
        refine x_callS (As := [_, _]) hO dX5_sign_47 o_X5_busAt s_X5_busAt l_X5_67 ⟨by decide, by decide⟩ ⟨by decide, by decide⟩ rfl rfl (Nat.le_of_ble_eq_true rfl) (r_busAt hO ?_)
        dsimp only [Option.toList, List.cons_append, List.nil_append]
        refine x_row (bi j 0) hO dX5_sign_50 k4 vN rfl (by simp only [bi]; omega) ?_
        refine x_istore dX5_sign_51 (by decide) ?_
        refine x_iconst (v := nI 3) dX5_sign_53 (by decide) ?_
        refine x_iload_n dX5_sign_54 rfl ?_
        refine x_callS (As := [_]) hO dX5_sign_55 o_X5_digits s_X5_digits l_X5_229 ⟨by decide, by decide⟩ ⟨by decide, by decide⟩ rfl rfl (Nat.le_of_ble_eq_true rfl) (r_digits (v := ρ (bi j 1)) (by omega) ?_)
        dsimp only [Option.toList, List.cons_append, List.nil_append]
        refine x_iadd dX5_sign_58 ?_
        rw [nI_add]
        refine x_istore dX5_sign_59 (by decide) ?_
        refine x_iload_n dX5_sign_61 rfl ?_
        refine x_bipush (v := nI 99) dX5_sign_62 (by decide) ?_
        refine x_icmp_le (tgt := 74) dX5_sign_64 (by decide) (fun c64 => ?_) (fun c64 => ?_)
        · simp (disch := omega) only [nI_leI] at c64
          refine x_iload dX5_sign_74 rfl ?_
          have em : (mrk (ρ (bi j 1))).length = 0 := by
            unfold mrk
            rw [if_neg (by omega)]
            rfl
          obtain ⟨lc, hlc⟩ : ∃ l, (dgs (ρ (bi j 1))).length = l := ⟨_, rfl⟩
          obtain ⟨lz, hlz⟩ : ∃ l, (dgs (ρ (bi j 0))).length = l := ⟨_, rfl⟩
          have SG := fun k => sg_get (k := k) hj8 hlc em hlz
          have SL := sg_len hj8 hlc em hlz
          rw [hlc] at d1 ⊢
          rw [hlz] at d0
          try rw [nI_add]
          refine x_istore dX5_sign_76 (by decide) ?_
          refine x_iload dX5_sign_78 rfl ?_
          refine x_iconst (v := nI 1) dX5_sign_80 (by decide) ?_
          refine x_iadd dX5_sign_81 ?_
          rw [nI_add]
          refine x_iload dX5_sign_82 rfl ?_
          refine x_callS (As := [_]) hO dX5_sign_84 o_X5_digits s_X5_digits l_X5_229 ⟨by decide, by decide⟩ ⟨by decide, by decide⟩ rfl rfl (Nat.le_of_ble_eq_true rfl) (r_digits (v := ρ (bi j 0)) (by omega) ?_)
          dsimp only [Option.toList, List.cons_append, List.nil_append]
          refine x_iadd dX5_sign_87 ?_
          rw [hlz, nI_add]
          refine x_istore dX5_sign_88 (by decide) ?_
          refine x_iload_n dX5_sign_90 rfl ?_
          refine x_iconst (v := nI 3) dX5_sign_91 (by decide) ?_
          refine x_icmp_ge (tgt := 119) dX5_sign_92 (by decide) (fun c92 => ?_) (fun c92 => ?_)
          · simp (disch := omega) only [nI_leI] at c92
            refine x_iload_n dX5_sign_119 rfl ?_
            refine x_iload dX5_sign_120 rfl ?_
            refine x_icmp_ge (tgt := 133) dX5_sign_122 (by decide) (fun c122 => ?_) (fun c122 => ?_)
            · simp (disch := omega) only [nI_leI] at c122
              refine x_iload_n dX5_sign_133 rfl ?_
              refine x_iload dX5_sign_134 rfl ?_
              refine x_icmp_gt (tgt := 153) dX5_sign_136 (by decide) (fun c136 => ?_) (fun c136 => ?_)
              · simp (disch := omega) only [nI_ltI] at c136
                refine x_iload_n dX5_sign_153 rfl ?_
                refine x_iload dX5_sign_154 rfl ?_
                refine x_icmp_ge (tgt := 173) dX5_sign_156 (by decide) (fun c156 => ?_) (fun c156 => ?_)
                · simp (disch := omega) only [nI_leI] at c156
                  refine x_iload_n dX5_sign_173 rfl ?_
                  refine x_iload dX5_sign_174 rfl ?_
                  refine x_icmp_ne (tgt := 184) dX5_sign_176 (by decide) (fun c176 => ?_) (fun c176 => ?_)
                  · simp (disch := omega) only [nI_eq] at c176
                    refine x_aload_n dX5_sign_184 rfl ?_
                    refine x_iload_n dX5_sign_185 rfl ?_
                    refine x_callV (As := [_]) 7 hO dX5_sign_186 o_X5_wordOf v_X5_wordOf l_X5_239 ⟨by decide, by decide⟩ (by first | (simp only [gK_wI]; assumption) | assumption) ⟨by decide, by decide⟩ rfl ⟨by decide, by decide⟩ rfl rfl (Nat.le_of_ble_eq_true rfl) (r_wordOf hO hM vN hj8 (by omega) (by omega) (by omega) (by omega) ?_)
                    dsimp only [Option.toList, List.cons_append, List.nil_append]
                    refine x_iload_n dX5_sign_189 rfl ?_
                    refine x_iload dX5_sign_190 rfl ?_
                    refine x_isub dX5_sign_192 ?_
                    refine x_iconst (v := nI 1) dX5_sign_193 (by decide) ?_
                    refine x_isub dX5_sign_194 ?_
                    rw [pk_sub (by omega), pk_sub (by omega)]
                    refine x_bipush (v := nI 9) dX5_sign_195 (by decide) ?_
                    refine x_icmp_le (tgt := 205) dX5_sign_197 (by decide) (fun c197 => ?_) (fun c197 => ?_)
                    · simp (disch := omega) only [nI_leI] at c197
                      refine x_iload_n dX5_sign_205 rfl ?_
                      refine x_iload dX5_sign_206 rfl ?_
                      refine x_isub dX5_sign_208 ?_
                      refine x_iconst (v := nI 1) dX5_sign_209 (by decide) ?_
                      refine x_isub dX5_sign_210 ?_
                      first
                        | rw [pk_sub (by omega), pk_sub (by omega)]
                        | skip
                      refine x_callS (As := [_, _]) hO dX5_sign_211 o_X5_letterOf s_X5_letterOf l_X5_242 ⟨by decide, by decide⟩ ⟨by decide, by decide⟩ rfl rfl (Nat.le_of_ble_eq_true rfl) (r_letterOf (by omega) (by omega) ?_)
                      dsimp only [Option.toList, List.cons_append, List.nil_append]
                      refine x_iret dX5_sign_214 rfl rfl ?_
                      have eV : sgV ρ j k = ltV (wdi ρ j - 4) (k - (3 + lc + 1 + lz) - 1) := by
                        unfold sgV ltV
                        rw [show 4 + (wdi ρ j - 4) = wdi ρ j by omega]
                        by_cases hk : k - (3 + lc + 1 + lz) - 1 < (strW (wdi ρ j)).length
                        · rw [if_pos hk, if_pos (by rw [SL]; omega), (SG k).2.2.2.2.2.2.2.2 (by omega)]
                          rw [show k - (3 + lc + 0 + 1 + lz + 1) = k - (3 + lc + 1 + lz) - 1 by omega]
                        · rw [if_neg hk, if_neg (by rw [SL]; omega)]
                      refine hq _ f22 ?_ (fun a ha => fr22 a (by omega)) ?_ ?_
                      · rw [eA]
                        exact hR1
                      · rw [eA]
                        exact z22
                      · rw [eA]
                        exact fun _ => eV.symm
                    · simp (disch := omega) only [nI_leI] at c197
                      refine x_bipush (v := nI 9) dX5_sign_200 (by decide) ?_
                      refine x_goto (tgt := 211) dX5_sign_202 (by decide) ?_
                      first
                        | rw [pk_sub (by omega), pk_sub (by omega)]
                        | skip
                      refine x_callS (As := [_, _]) hO dX5_sign_211 o_X5_letterOf s_X5_letterOf l_X5_242 ⟨by decide, by decide⟩ ⟨by decide, by decide⟩ rfl rfl (Nat.le_of_ble_eq_true rfl) (r_letterOf (by omega) (by omega) ?_)
                      dsimp only [Option.toList, List.cons_append, List.nil_append]
                      refine x_iret dX5_sign_214 rfl rfl ?_
                      have eV : sgV ρ j k = ltV (wdi ρ j - 4) 9 := by
                        unfold sgV ltV
                        rw [show 4 + (wdi ρ j - 4) = wdi ρ j by omega, if_neg (by rw [SL]; omega), if_neg (by omega)]
                      refine hq _ f22 ?_ (fun a ha => fr22 a (by omega)) ?_ ?_
                      · rw [eA]
                        exact hR1
                      · rw [eA]
                        exact z22
                      · rw [eA]
                        exact fun _ => eV.symm
                  · simp (disch := omega) only [nI_eq] at c176
                    refine x_bipush (v := nI 32) dX5_sign_179 (by decide) ?_
                    refine x_goto (tgt := 214) dX5_sign_181 (by decide) ?_
                    refine x_iret dX5_sign_214 rfl rfl ?_
                    have eV : sgV ρ j k = nI 32 := by
                      unfold sgV
                      rw [if_pos (by rw [SL]; omega), (SG k).2.2.2.2.2.2.2.1 (by omega) (by omega)]
                    refine hq _ f22 ?_ (fun a ha => fr22 a (by omega)) ?_ ?_
                    · rw [eA]
                      exact hR1
                    · rw [eA]
                      exact z22
                    · rw [eA]
                      exact fun _ => eV.symm
                · simp (disch := omega) only [nI_leI] at c156
                  refine x_iload dX5_sign_159 rfl ?_
                  refine x_iload_n dX5_sign_161 rfl ?_
                  refine x_iload dX5_sign_162 rfl ?_
                  refine x_isub dX5_sign_164 ?_
                  refine x_iconst (v := nI 1) dX5_sign_165 (by decide) ?_
                  refine x_isub dX5_sign_166 ?_
                  rw [pk_sub (by omega), pk_sub (by omega)]
                  refine x_callS (As := [_, _]) hO dX5_sign_167 o_X5_digitOf s_X5_digitOf l_X5_236 ⟨by decide, by decide⟩ ⟨by decide, by decide⟩ rfl rfl (Nat.le_of_ble_eq_true rfl) (r_digitOf (v := ρ (bi j 0)) (k := k - (3 + lc) - 1) hO (by omega) (by rw [hlz]; omega) ?_)
                  dsimp only [Option.toList, List.cons_append, List.nil_append]
                  refine x_goto (tgt := 214) dX5_sign_170 (by decide) ?_
                  refine x_iret dX5_sign_214 rfl rfl ?_
                  have eV : sgV ρ j k = nI ((dgs (ρ (bi j 0))).getD (k - (3 + lc) - 1) 0) := by
                    unfold sgV
                    rw [if_pos (by rw [SL]; omega), (SG k).2.2.2.2.2.2.1 (by omega) (by omega)]
                    rw [show k - (3 + lc + 0 + 1) = k - (3 + lc) - 1 by omega]
                  refine hq _ f22 ?_ (fun a ha => fr22 a (by omega)) ?_ ?_
                  · rw [eA]
                    exact hR1
                  · rw [eA]
                    exact z22
                  · rw [eA]
                    exact fun _ => eV.symm
              · simp (disch := omega) only [nI_ltI] at c136
                refine x_iload_n dX5_sign_139 rfl ?_
                refine x_iload dX5_sign_140 rfl ?_
                refine x_icmp_ne (tgt := 150) dX5_sign_142 (by decide) (fun c142 => ?_) (fun c142 => ?_)
                · simp (disch := omega) only [nI_eq] at c142
                  refine x_bipush (v := nI 33) dX5_sign_150 (by decide) ?_
                  refine x_iret dX5_sign_152 rfl rfl ?_
                  exfalso
                  omega
                · simp (disch := omega) only [nI_eq] at c142
                  refine x_bipush (v := nI 47) dX5_sign_145 (by decide) ?_
                  refine x_goto (tgt := 152) dX5_sign_147 (by decide) ?_
                  refine x_iret dX5_sign_152 rfl rfl ?_
                  have eV : sgV ρ j k = nI 47 := by
                    unfold sgV
                    rw [if_pos (by rw [SL]; omega), (SG k).2.2.2.2.2.1 (by omega) (by omega)]
                  refine hq _ f22 ?_ (fun a ha => fr22 a (by omega)) ?_ ?_
                  · rw [eA]
                    exact hR1
                  · rw [eA]
                    exact z22
                  · rw [eA]
                    exact fun _ => eV.symm
            · simp (disch := omega) only [nI_leI] at c122
              refine x_iload_n dX5_sign_125 rfl ?_
              refine x_iload_n dX5_sign_126 rfl ?_
              refine x_iconst (v := nI 3) dX5_sign_127 (by decide) ?_
              refine x_isub dX5_sign_128 ?_
              rw [pk_sub (by omega)]
              refine x_callS (As := [_, _]) hO dX5_sign_129 o_X5_digitOf s_X5_digitOf l_X5_236 ⟨by decide, by decide⟩ ⟨by decide, by decide⟩ rfl rfl (Nat.le_of_ble_eq_true rfl) (r_digitOf (v := ρ (bi j 1)) (k := k - 3) hO (by omega) (by rw [hlc]; omega) ?_)
              dsimp only [Option.toList, List.cons_append, List.nil_append]
              refine x_iret dX5_sign_132 rfl rfl ?_
              have eV : sgV ρ j k = nI ((dgs (ρ (bi j 1))).getD (k - 3) 0) := by
                unfold sgV
                rw [if_pos (by rw [SL]; omega), (SG k).2.2.2.1 (by omega) (by omega)]
              refine hq _ f22 ?_ (fun a ha => fr22 a (by omega)) ?_ ?_
              · rw [eA]
                exact hR1
              · rw [eA]
                exact z22
              · rw [eA]
                exact fun _ => eV.symm
          · simp (disch := omega) only [nI_leI] at c92
            refine x_iload_n dX5_sign_95 rfl ?_
            refine x_if_ne (tgt := 104) dX5_sign_96 (by decide) (fun c96 => ?_) (fun c96 => ?_)
            · simp (disch := omega) only [nI_z] at c96
              refine x_iload_n dX5_sign_104 rfl ?_
              refine x_iconst (v := nI 1) dX5_sign_105 (by decide) ?_
              refine x_icmp_ne (tgt := 116) dX5_sign_106 (by decide) (fun c106 => ?_) (fun c106 => ?_)
              · simp (disch := omega) only [nI_eq] at c106
                refine x_bipush (v := nI 32) dX5_sign_116 (by decide) ?_
                refine x_iret dX5_sign_118 rfl rfl ?_
                have eV : sgV ρ j k = nI 32 := by
                  unfold sgV
                  rw [if_pos (by rw [SL]; omega), (SG k).2.2.1 (by omega) (by omega)]
                refine hq _ f22 ?_ (fun a ha => fr22 a (by omega)) ?_ ?_
                · rw [eA]
                  exact hR1
                · rw [eA]
                  exact z22
                · rw [eA]
                  exact fun _ => eV.symm
              · simp (disch := omega) only [nI_eq] at c106
                refine x_bipush (v := nI 48) dX5_sign_109 (by decide) ?_
                refine x_iload_n dX5_sign_111 rfl ?_
                refine x_iadd dX5_sign_112 ?_
                rw [nI_add]
                refine x_goto (tgt := 118) dX5_sign_113 (by decide) ?_
                refine x_iret dX5_sign_118 rfl rfl ?_
                have eV : sgV ρ j k = nI (48 + j) := by
                  unfold sgV
                  rw [if_pos (by rw [SL]; omega), (SG k).2.1 (by omega) (by omega)]
                refine hq _ f22 ?_ (fun a ha => fr22 a (by omega)) ?_ ?_
                · rw [eA]
                  exact hR1
                · rw [eA]
                  exact z22
                · rw [eA]
                  exact fun _ => eV.symm
            · simp (disch := omega) only [nI_z] at c96
              refine x_bipush (v := nI 98) dX5_sign_99 (by decide) ?_
              refine x_goto (tgt := 118) dX5_sign_101 (by decide) ?_
              refine x_iret dX5_sign_118 rfl rfl ?_
              have eV : sgV ρ j k = nI 98 := by
                unfold sgV
                rw [if_pos (by rw [SL]; omega), (SG k).1 (by omega) (by omega)]
              refine hq _ f22 ?_ (fun a ha => fr22 a (by omega)) ?_ ?_
              · rw [eA]
                exact hR1
              · rw [eA]
                exact z22
              · rw [eA]
                exact fun _ => eV.symm
        · simp (disch := omega) only [nI_leI] at c64
          refine x_iload dX5_sign_67 rfl ?_
          refine x_iconst (v := nI 1) dX5_sign_69 (by decide) ?_
          refine x_iadd dX5_sign_70 ?_
          refine x_goto (tgt := 76) dX5_sign_71 (by decide) ?_
          have em : (mrk (ρ (bi j 1))).length = 1 := by
            unfold mrk
            rw [if_pos (by omega)]
            rfl
          obtain ⟨lc, hlc⟩ : ∃ l, (dgs (ρ (bi j 1))).length = l := ⟨_, rfl⟩
          obtain ⟨lz, hlz⟩ : ∃ l, (dgs (ρ (bi j 0))).length = l := ⟨_, rfl⟩
          have SG := fun k => sg_get (k := k) hj8 hlc em hlz
          have SL := sg_len hj8 hlc em hlz
          rw [hlc] at d1 ⊢
          rw [hlz] at d0
          try rw [nI_add]
          refine x_istore dX5_sign_76 (by decide) ?_
          refine x_iload dX5_sign_78 rfl ?_
          refine x_iconst (v := nI 1) dX5_sign_80 (by decide) ?_
          refine x_iadd dX5_sign_81 ?_
          rw [nI_add]
          refine x_iload dX5_sign_82 rfl ?_
          refine x_callS (As := [_]) hO dX5_sign_84 o_X5_digits s_X5_digits l_X5_229 ⟨by decide, by decide⟩ ⟨by decide, by decide⟩ rfl rfl (Nat.le_of_ble_eq_true rfl) (r_digits (v := ρ (bi j 0)) (by omega) ?_)
          dsimp only [Option.toList, List.cons_append, List.nil_append]
          refine x_iadd dX5_sign_87 ?_
          rw [hlz, nI_add]
          refine x_istore dX5_sign_88 (by decide) ?_
          refine x_iload_n dX5_sign_90 rfl ?_
          refine x_iconst (v := nI 3) dX5_sign_91 (by decide) ?_
          refine x_icmp_ge (tgt := 119) dX5_sign_92 (by decide) (fun c92 => ?_) (fun c92 => ?_)
          · simp (disch := omega) only [nI_leI] at c92
            refine x_iload_n dX5_sign_119 rfl ?_
            refine x_iload dX5_sign_120 rfl ?_
            refine x_icmp_ge (tgt := 133) dX5_sign_122 (by decide) (fun c122 => ?_) (fun c122 => ?_)
            · simp (disch := omega) only [nI_leI] at c122
              refine x_iload_n dX5_sign_133 rfl ?_
              refine x_iload dX5_sign_134 rfl ?_
              refine x_icmp_gt (tgt := 153) dX5_sign_136 (by decide) (fun c136 => ?_) (fun c136 => ?_)
              · simp (disch := omega) only [nI_ltI] at c136
                refine x_iload_n dX5_sign_153 rfl ?_
                refine x_iload dX5_sign_154 rfl ?_
                refine x_icmp_ge (tgt := 173) dX5_sign_156 (by decide) (fun c156 => ?_) (fun c156 => ?_)
                · simp (disch := omega) only [nI_leI] at c156
                  refine x_iload_n dX5_sign_173 rfl ?_
                  refine x_iload dX5_sign_174 rfl ?_
                  refine x_icmp_ne (tgt := 184) dX5_sign_176 (by decide) (fun c176 => ?_) (fun c176 => ?_)
                  · simp (disch := omega) only [nI_eq] at c176
                    refine x_aload_n dX5_sign_184 rfl ?_
                    refine x_iload_n dX5_sign_185 rfl ?_
                    refine x_callV (As := [_]) 7 hO dX5_sign_186 o_X5_wordOf v_X5_wordOf l_X5_239 ⟨by decide, by decide⟩ (by first | (simp only [gK_wI]; assumption) | assumption) ⟨by decide, by decide⟩ rfl ⟨by decide, by decide⟩ rfl rfl (Nat.le_of_ble_eq_true rfl) (r_wordOf hO hM vN hj8 (by omega) (by omega) (by omega) (by omega) ?_)
                    dsimp only [Option.toList, List.cons_append, List.nil_append]
                    refine x_iload_n dX5_sign_189 rfl ?_
                    refine x_iload dX5_sign_190 rfl ?_
                    refine x_isub dX5_sign_192 ?_
                    refine x_iconst (v := nI 1) dX5_sign_193 (by decide) ?_
                    refine x_isub dX5_sign_194 ?_
                    rw [pk_sub (by omega), pk_sub (by omega)]
                    refine x_bipush (v := nI 9) dX5_sign_195 (by decide) ?_
                    refine x_icmp_le (tgt := 205) dX5_sign_197 (by decide) (fun c197 => ?_) (fun c197 => ?_)
                    · simp (disch := omega) only [nI_leI] at c197
                      refine x_iload_n dX5_sign_205 rfl ?_
                      refine x_iload dX5_sign_206 rfl ?_
                      refine x_isub dX5_sign_208 ?_
                      refine x_iconst (v := nI 1) dX5_sign_209 (by decide) ?_
                      refine x_isub dX5_sign_210 ?_
                      first
                        | rw [pk_sub (by omega), pk_sub (by omega)]
                        | skip
                      refine x_callS (As := [_, _]) hO dX5_sign_211 o_X5_letterOf s_X5_letterOf l_X5_242 ⟨by decide, by decide⟩ ⟨by decide, by decide⟩ rfl rfl (Nat.le_of_ble_eq_true rfl) (r_letterOf (by omega) (by omega) ?_)
                      dsimp only [Option.toList, List.cons_append, List.nil_append]
                      refine x_iret dX5_sign_214 rfl rfl ?_
                      have eV : sgV ρ j k = ltV (wdi ρ j - 4) (k - (3 + lc + 1 + 1 + lz) - 1) := by
                        unfold sgV ltV
                        rw [show 4 + (wdi ρ j - 4) = wdi ρ j by omega]
                        by_cases hk : k - (3 + lc + 1 + 1 + lz) - 1 < (strW (wdi ρ j)).length
                        · rw [if_pos hk, if_pos (by rw [SL]; omega), (SG k).2.2.2.2.2.2.2.2 (by omega)]
                          rw [show k - (3 + lc + 1 + 1 + lz + 1) = k - (3 + lc + 1 + 1 + lz) - 1 by omega]
                        · rw [if_neg hk, if_neg (by rw [SL]; omega)]
                      refine hq _ f22 ?_ (fun a ha => fr22 a (by omega)) ?_ ?_
                      · rw [eA]
                        exact hR1
                      · rw [eA]
                        exact z22
                      · rw [eA]
                        exact fun _ => eV.symm
                    · simp (disch := omega) only [nI_leI] at c197
                      refine x_bipush (v := nI 9) dX5_sign_200 (by decide) ?_
                      refine x_goto (tgt := 211) dX5_sign_202 (by decide) ?_
                      first
                        | rw [pk_sub (by omega), pk_sub (by omega)]
                        | skip
                      refine x_callS (As := [_, _]) hO dX5_sign_211 o_X5_letterOf s_X5_letterOf l_X5_242 ⟨by decide, by decide⟩ ⟨by decide, by decide⟩ rfl rfl (Nat.le_of_ble_eq_true rfl) (r_letterOf (by omega) (by omega) ?_)
                      dsimp only [Option.toList, List.cons_append, List.nil_append]
                      refine x_iret dX5_sign_214 rfl rfl ?_
                      have eV : sgV ρ j k = ltV (wdi ρ j - 4) 9 := by
                        unfold sgV ltV
                        rw [show 4 + (wdi ρ j - 4) = wdi ρ j by omega, if_neg (by rw [SL]; omega), if_neg (by omega)]
                      refine hq _ f22 ?_ (fun a ha => fr22 a (by omega)) ?_ ?_
                      · rw [eA]
                        exact hR1
                      · rw [eA]
                        exact z22
                      · rw [eA]
                        exact fun _ => eV.symm
                  · simp (disch := omega) only [nI_eq] at c176
                    refine x_bipush (v := nI 32) dX5_sign_179 (by decide) ?_
                    refine x_goto (tgt := 214) dX5_sign_181 (by decide) ?_
                    refine x_iret dX5_sign_214 rfl rfl ?_
                    have eV : sgV ρ j k = nI 32 := by
                      unfold sgV
                      rw [if_pos (by rw [SL]; omega), (SG k).2.2.2.2.2.2.2.1 (by omega) (by omega)]
                    refine hq _ f22 ?_ (fun a ha => fr22 a (by omega)) ?_ ?_
                    · rw [eA]
                      exact hR1
                    · rw [eA]
                      exact z22
                    · rw [eA]
                      exact fun _ => eV.symm
                · simp (disch := omega) only [nI_leI] at c156
                  refine x_iload dX5_sign_159 rfl ?_
                  refine x_iload_n dX5_sign_161 rfl ?_
                  refine x_iload dX5_sign_162 rfl ?_
                  refine x_isub dX5_sign_164 ?_
                  refine x_iconst (v := nI 1) dX5_sign_165 (by decide) ?_
                  refine x_isub dX5_sign_166 ?_
                  rw [pk_sub (by omega), pk_sub (by omega)]
                  refine x_callS (As := [_, _]) hO dX5_sign_167 o_X5_digitOf s_X5_digitOf l_X5_236 ⟨by decide, by decide⟩ ⟨by decide, by decide⟩ rfl rfl (Nat.le_of_ble_eq_true rfl) (r_digitOf (v := ρ (bi j 0)) (k := k - (3 + lc + 1) - 1) hO (by omega) (by rw [hlz]; omega) ?_)
                  dsimp only [Option.toList, List.cons_append, List.nil_append]
                  refine x_goto (tgt := 214) dX5_sign_170 (by decide) ?_
                  refine x_iret dX5_sign_214 rfl rfl ?_
                  have eV : sgV ρ j k = nI ((dgs (ρ (bi j 0))).getD (k - (3 + lc + 1) - 1) 0) := by
                    unfold sgV
                    rw [if_pos (by rw [SL]; omega), (SG k).2.2.2.2.2.2.1 (by omega) (by omega)]
                    rw [show k - (3 + lc + 1 + 1) = k - (3 + lc + 1) - 1 by omega]
                  refine hq _ f22 ?_ (fun a ha => fr22 a (by omega)) ?_ ?_
                  · rw [eA]
                    exact hR1
                  · rw [eA]
                    exact z22
                  · rw [eA]
                    exact fun _ => eV.symm
              · simp (disch := omega) only [nI_ltI] at c136
                refine x_iload_n dX5_sign_139 rfl ?_
                refine x_iload dX5_sign_140 rfl ?_
                refine x_icmp_ne (tgt := 150) dX5_sign_142 (by decide) (fun c142 => ?_) (fun c142 => ?_)
                · simp (disch := omega) only [nI_eq] at c142
                  refine x_bipush (v := nI 33) dX5_sign_150 (by decide) ?_
                  refine x_iret dX5_sign_152 rfl rfl ?_
                  have eV : sgV ρ j k = nI 33 := by
                    unfold sgV
                    rw [if_pos (by rw [SL]; omega), (SG k).2.2.2.2.1 (by omega) (by omega)]
                  refine hq _ f22 ?_ (fun a ha => fr22 a (by omega)) ?_ ?_
                  · rw [eA]
                    exact hR1
                  · rw [eA]
                    exact z22
                  · rw [eA]
                    exact fun _ => eV.symm
                · simp (disch := omega) only [nI_eq] at c142
                  refine x_bipush (v := nI 47) dX5_sign_145 (by decide) ?_
                  refine x_goto (tgt := 152) dX5_sign_147 (by decide) ?_
                  refine x_iret dX5_sign_152 rfl rfl ?_
                  have eV : sgV ρ j k = nI 47 := by
                    unfold sgV
                    rw [if_pos (by rw [SL]; omega), (SG k).2.2.2.2.2.1 (by omega) (by omega)]
                  refine hq _ f22 ?_ (fun a ha => fr22 a (by omega)) ?_ ?_
                  · rw [eA]
                    exact hR1
                  · rw [eA]
                    exact z22
                  · rw [eA]
                    exact fun _ => eV.symm
            · simp (disch := omega) only [nI_leI] at c122
              refine x_iload_n dX5_sign_125 rfl ?_
              refine x_iload_n dX5_sign_126 rfl ?_
              refine x_iconst (v := nI 3) dX5_sign_127 (by decide) ?_
              refine x_isub dX5_sign_128 ?_
              rw [pk_sub (by omega)]
              refine x_callS (As := [_, _]) hO dX5_sign_129 o_X5_digitOf s_X5_digitOf l_X5_236 ⟨by decide, by decide⟩ ⟨by decide, by decide⟩ rfl rfl (Nat.le_of_ble_eq_true rfl) (r_digitOf (v := ρ (bi j 1)) (k := k - 3) hO (by omega) (by rw [hlc]; omega) ?_)
              dsimp only [Option.toList, List.cons_append, List.nil_append]
              refine x_iret dX5_sign_132 rfl rfl ?_
              have eV : sgV ρ j k = nI ((dgs (ρ (bi j 1))).getD (k - 3) 0) := by
                unfold sgV
                rw [if_pos (by rw [SL]; omega), (SG k).2.2.2.1 (by omega) (by omega)]
              refine hq _ f22 ?_ (fun a ha => fr22 a (by omega)) ?_ ?_
              · rw [eA]
                exact hR1
              · rw [eA]
                exact z22
              · rw [eA]
                exact fun _ => eV.symm
          · simp (disch := omega) only [nI_leI] at c92
            refine x_iload_n dX5_sign_95 rfl ?_
            refine x_if_ne (tgt := 104) dX5_sign_96 (by decide) (fun c96 => ?_) (fun c96 => ?_)
            · simp (disch := omega) only [nI_z] at c96
              refine x_iload_n dX5_sign_104 rfl ?_
              refine x_iconst (v := nI 1) dX5_sign_105 (by decide) ?_
              refine x_icmp_ne (tgt := 116) dX5_sign_106 (by decide) (fun c106 => ?_) (fun c106 => ?_)
              · simp (disch := omega) only [nI_eq] at c106
                refine x_bipush (v := nI 32) dX5_sign_116 (by decide) ?_
                refine x_iret dX5_sign_118 rfl rfl ?_
                have eV : sgV ρ j k = nI 32 := by
                  unfold sgV
                  rw [if_pos (by rw [SL]; omega), (SG k).2.2.1 (by omega) (by omega)]
                refine hq _ f22 ?_ (fun a ha => fr22 a (by omega)) ?_ ?_
                · rw [eA]
                  exact hR1
                · rw [eA]
                  exact z22
                · rw [eA]
                  exact fun _ => eV.symm
              · simp (disch := omega) only [nI_eq] at c106
                refine x_bipush (v := nI 48) dX5_sign_109 (by decide) ?_
                refine x_iload_n dX5_sign_111 rfl ?_
                refine x_iadd dX5_sign_112 ?_
                rw [nI_add]
                refine x_goto (tgt := 118) dX5_sign_113 (by decide) ?_
                refine x_iret dX5_sign_118 rfl rfl ?_
                have eV : sgV ρ j k = nI (48 + j) := by
                  unfold sgV
                  rw [if_pos (by rw [SL]; omega), (SG k).2.1 (by omega) (by omega)]
                refine hq _ f22 ?_ (fun a ha => fr22 a (by omega)) ?_ ?_
                · rw [eA]
                  exact hR1
                · rw [eA]
                  exact z22
                · rw [eA]
                  exact fun _ => eV.symm
            · simp (disch := omega) only [nI_z] at c96
              refine x_bipush (v := nI 98) dX5_sign_99 (by decide) ?_
              refine x_goto (tgt := 118) dX5_sign_101 (by decide) ?_
              refine x_iret dX5_sign_118 rfl rfl ?_
              have eV : sgV ρ j k = nI 98 := by
                unfold sgV
                rw [if_pos (by rw [SL]; omega), (SG k).1 (by omega) (by omega)]
              refine hq _ f22 ?_ (fun a ha => fr22 a (by omega)) ?_ ?_
              · rw [eA]
                exact hR1
              · rw [eA]
                exact z22
              · rw [eA]
                exact fun _ => eV.symm
      · exact absurd (hr22.trans (if_neg (by decide))) c25
    · refine x_iconst (v := nI 2) dX5_sign_17 (by decide) ?_
      refine x_goto (tgt := 22) dX5_sign_18 (by decide) ?_
      refine x_callV (As := [_]) 7 hO dX5_sign_22 o_X5_refused v_X5_refused l_X5_137 ⟨by decide, by decide⟩ (by first | (simp only [gK_wI]; assumption) | assumption) ⟨by decide, by decide⟩ rfl ⟨by decide, by decide⟩ rfl rfl (Nat.le_of_ble_eq_true rfl) (t_ref hO hR (by decide) (fun r22 f22 hr22 z22 hR1 fr22 => ?_))
      dsimp only [Option.toList, List.cons_append, List.nil_append]
      refine x_if_eq (tgt := 30) dX5_sign_25 (by decide) (fun c25 => ?_) (fun c25 => ?_)
      · exact absurd (c25.symm.trans (hr22.trans (if_pos (by decide)))) (by decide)
      · have p22 := (ite01 hr22).2 c25
        refine x_iconst (v := nI 0) dX5_sign_28 (by decide) ?_
        refine x_iret dX5_sign_29 rfl rfl ?_
        have eA : aSign (S, n, ρ, L, K) (nI j) w = (2, 0, (S, n, ρ, L, K)) := (if_pos p3).trans (if_neg (show ¬ nI 0 ≤ w from c14))
        refine hq _ f22 ?_ (fun a ha => fr22 a (by omega)) ?_ ?_
        · rw [eA]
          exact hR1
        · rw [eA]
          exact z22
        · rw [eA]
          exact fun h => absurd h (Nat.succ_ne_zero _)
  · have p3 := (ite01 hr3).1 c6
    refine x_iconst (v := nI 1) dX5_sign_9 (by decide) ?_
    refine x_goto (tgt := 22) dX5_sign_10 (by decide) ?_
    refine x_callV (As := [_]) 7 hO dX5_sign_22 o_X5_refused v_X5_refused l_X5_137 ⟨by decide, by decide⟩ (by first | (simp only [gK_wI]; assumption) | assumption) ⟨by decide, by decide⟩ rfl ⟨by decide, by decide⟩ rfl rfl (Nat.le_of_ble_eq_true rfl) (t_ref hO hR (by decide) (fun r22 f22 hr22 z22 hR1 fr22 => ?_))
    dsimp only [Option.toList, List.cons_append, List.nil_append]
    refine x_if_eq (tgt := 30) dX5_sign_25 (by decide) (fun c25 => ?_) (fun c25 => ?_)
    · exact absurd (c25.symm.trans (hr22.trans (if_pos (by decide)))) (by decide)
    · have p22 := (ite01 hr22).2 c25
      refine x_iconst (v := nI 0) dX5_sign_28 (by decide) ?_
      refine x_iret dX5_sign_29 rfl rfl ?_
      have eA : aSign (S, n, ρ, L, K) b w = (1, 0, (S, n, ρ, L, K)) := if_neg p3
      refine hq _ f22 ?_ (fun a ha => fr22 a (by omega)) ?_ ?_
      · rw [eA]
        exact hR1
      · rw [eA]
        exact z22
      · rw [eA]
        exact fun h => absurd h (Nat.succ_ne_zero _)

