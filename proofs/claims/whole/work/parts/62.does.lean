/-! the reference: scripts *)-/
theorem r_tenTo {G : GT} {C : AH} {Q : QT} {X : XT} {k : Nat} (hO : GO G) (hk : k < 100) (hq : Q (some (.long (lN (10 ^ k)))) C) : Mt G M_X5_tenTo [.int (nI k)] C Q X := by
  refine Mt_of (by decide) (Nat.le_of_ble_eq_true rfl) ?_
  have loop : ∀ (m9 i : Nat), k - i = m9 → i ≤ k → Ex G M_X5_tenTo Q X (mC M_X5_tenTo) (mS M_X5_tenTo) 4 [(0, .int (nI k)), (1, .long (lN (10 ^ i))), (3, .int (nI i))] [] C := by
    intro m9
    induction m9 using Nat.strongRecOn with
    | _ m9 ih =>
      intro i hm9 hi
      refine x_iload_n dX5_tenTo_4 rfl ?_
      refine x_iload_n dX5_tenTo_5 rfl ?_
      refine x_icmp_ge (tgt := 21) dX5_tenTo_6 (by decide) (fun c6 => ?_) (fun c6 => ?_)
      · simp (disch := omega) only [nI_leI] at c6
        refine x_lload_n dX5_tenTo_21 rfl ?_
        refine x_lret dX5_tenTo_22 rfl ?_
        have : i = k := by omega
        subst this
        exact hq
      · simp (disch := omega) only [nI_leI] at c6
        refine x_lload_n dX5_tenTo_9 rfl ?_
        refine x_ldc2 hO.1 dX5_tenTo_10 k_X5_58 ?_
        refine x_lmul dX5_tenTo_13 ?_
        rw [show (10 : Int64) = lN 10 from rfl, lN_mul]
        refine x_lstore_n dX5_tenTo_14 (by decide) ?_
        refine x_iinc (v := nI 1) dX5_tenTo_15 rfl (by decide) (by decide) ?_
        refine x_goto (tgt := 4) dX5_tenTo_18 (by decide) ?_
        refine x_ls [(0, .int (nI k)), (1, .long (lN (10 ^ (i + 1)))), (3, .int (nI (i + 1)))] ⟨rfl, (by rw [Nat.pow_succ]; rfl), (by rw [← nI_add]; rfl), trivial⟩ ?_
        exact ih (m9 - 1) (by omega) (i + 1) (by omega) (by omega)
  refine x_lconst (v := 1) dX5_tenTo_0 (by decide) ?_
  refine x_lstore_n dX5_tenTo_1 (by decide) ?_
  refine x_iconst (v := nI 0) dX5_tenTo_2 (by decide) ?_
  refine x_istore_n dX5_tenTo_3 (by decide) ?_
  refine x_ls [(0, .int (nI k)), (1, .long (lN (10 ^ 0))), (3, .int (nI 0))] ⟨rfl, rfl, rfl, trivial⟩ ?_
  exact loop _ 0 rfl (Nat.zero_le _)
theorem r_isThere {G : GT} {C : AH} {Q : QT} {X : XT} {m : Nat} {τ : Rw} {d : Nat} (hO : GO G) (hM : MdS C m) (hV : Vr (gI C) (m + 5) τ) (h1 : τ 1 ≤ 8) (hd : d < 1000000) (hq : ∀ r : Int32, r = (if d < τ 1 then 1 else 0) → Q (some (.int r)) C) : Mt G M_X5_isThere [.ref m, .int (nI d)] C Q X := by
  refine Mt_of (by decide) (Nat.le_of_ble_eq_true rfl) ?_
  obtain ⟨hm0, ⟨g1, g6, g7, g8, g9, g10, g12, g13, g14, g15, g16, g17, g18⟩, k1, k2, k3, k4, k5, k6, k7, k8, k9, k10, k11, k12, k13, hmz⟩ := id hM
  refine x_iload_n dX5_isThere_0 rfl ?_
  refine x_aload_n dX5_isThere_1 rfl ?_
  refine x_get 7 hO dX5_isThere_2 f_X5_22 (by first | (simp only [gK_wI]; assumption) | assumption) ⟨by decide, by decide⟩ (v := .ref (m + 5)) (congrArg va_rf g9) ?_
  refine x_iconst (v := nI 1) dX5_isThere_5 (by decide) ?_
  refine x_row _ hO dX5_isThere_6 k5 hV rfl (by omega) ?_
  refine x_icmp_ge (tgt := 14) dX5_isThere_7 (by decide) (fun c7 => ?_) (fun c7 => ?_)
  · simp (disch := omega) only [nI_leI] at c7
    refine x_iconst (v := nI 0) dX5_isThere_14 (by decide) ?_
    refine x_iret dX5_isThere_15 rfl (by first | rfl | assumption) ?_
    exact hq _ (by first | exact (if_pos (by omega)).symm | exact (if_neg (by omega)).symm)
  · simp (disch := omega) only [nI_leI] at c7
    refine x_iconst (v := nI 1) dX5_isThere_10 (by decide) ?_
    refine x_goto (tgt := 15) dX5_isThere_11 (by decide) ?_
    refine x_iret dX5_isThere_15 rfl (by first | rfl | assumption) ?_
    exact hq _ (by first | exact (if_pos (by omega)).symm | exact (if_neg (by omega)).symm)

theorem nr01 {x : Int32} (h : x = 0 ∨ x = 1) : narrow .boolean (.int x) = .int x := by
  rcases h with rfl | rfl <;> rfl
theorem or01 {r : Int32} {p : Prop} {hd : Decidable p} (h : r = (if p then 1 else 0)) : r = 0 ∨ r = 1 := by
  subst h
  split
  · exact Or.inr rfl
  · exact Or.inl rfl
theorem r_runs {G : GT} {C : AH} {Q : QT} {X : XT} {m T : Nat} {τ : Rw} {a d t : Nat} (hO : GO G) (hM : MdS C m) (hV : Vr (gI C) (m + 5) τ) (hk : Ok T τ) (hT : T ≤ 48000) (ha : a < 1000000) (hq : ∀ (r : Int32) (f : Nat → Nat → Int32), r = (if (doesP 1 a d t τ).1 = true then 1 else 0) → Vr f (m + 5) (doesP 1 a d t τ).2 → (∀ a, (a < m + 2 ∨ a = m + 4 ∨ (m + 6 ≤ a ∧ a ≤ m + 8) ∨ m + 14 ≤ a) → f a = gI C a) → Q (some (.int r)) (wI C f)) : Mt G M_X5_runs [.ref m, .int (nI a)] C Q X := by
  refine Mt_of (by decide) (Nat.le_of_ble_eq_true rfl) ?_
  obtain ⟨hm0, ⟨g1, g6, g7, g8, g9, g10, g12, g13, g14, g15, g16, g17, g18⟩, k1, k2, k3, k4, k5, k6, k7, k8, k9, k10, k11, k12, k13, hmz⟩ := id hM
  obtain ⟨hW, hB⟩ := id hk
  have t1 : τ 1 ≤ 8 := hW.1
  have t2 : τ 2 ≤ 5 := hW.2.1
  refine x_iload_n dX5_runs_0 rfl ?_
  refine x_callS (As := [_]) hO dX5_runs_1 o_X5_isRun s_X5_isRun l_X5_267 ⟨by decide, by decide⟩ ⟨by decide, by decide⟩ rfl rfl (Nat.le_of_ble_eq_true rfl) (r_isRun hO (fun r1 hr1 => ?_))
  dsimp only [Option.toList, List.cons_append, List.nil_append]
  refine x_if_eq (tgt := 17) dX5_runs_4 (by decide) (fun c4 => ?_) (fun c4 => ?_)
  · have p1 := (ite01 hr1).1 c4
    simp (disch := omega) only [nI_leI] at p1
    have hc : doesP 1 a d t τ = (false, τ) := if_neg p1
    refine x_iload_n dX5_runs_17 rfl ?_
    refine x_callS (As := [_]) hO dX5_runs_18 o_X5_isRun s_X5_isRun l_X5_267 ⟨by decide, by decide⟩ ⟨by decide, by decide⟩ rfl rfl (Nat.le_of_ble_eq_true rfl) (r_isRun hO (fun r18 hr18 => ?_))
    dsimp only [Option.toList, List.cons_append, List.nil_append]
    refine x_iret dX5_runs_21 rfl (nrb hr18) ?_
    simp (disch := omega) only [nI_leI] at hr18
    first
      | (rw [if_pos p1] at hr18
         refine hq _ f13 (by rw [hc, hr18]; rfl) (by rw [hc]; exact v13) (fun a ha => r13 a (by omega) (by omega))
         done)
      | (rw [if_neg p1] at hr18
         exact hq _ (gI C) (by rw [hc, hr18]; rfl) (by rw [hc]; exact hV) (fun _ _ => rfl))
  · have p1 := (ite01 hr1).2 c4
    simp (disch := omega) only [nI_leI] at p1
    have hc : doesP 1 a d t τ = (true, runN a τ) := if_pos p1
    refine x_aload_n dX5_runs_7 rfl ?_
    refine x_aload_n dX5_runs_8 rfl ?_
    refine x_get 7 hO dX5_runs_9 f_X5_22 (by first | (simp only [gK_wI]; assumption) | assumption) ⟨by decide, by decide⟩ (v := .ref (m + 5)) (congrArg va_rf g9) ?_
    refine x_iload_n dX5_runs_12 rfl ?_
    refine x_callV (As := [_, _]) 7 hO dX5_runs_13 o_X5_runIn v_X5_runIn l_X5_189 ⟨by decide, by decide⟩ (by first | (simp only [gK_wI]; assumption) | assumption) ⟨by decide, by decide⟩ rfl ⟨by decide, by decide⟩ rfl rfl (Nat.le_of_ble_eq_true rfl) (r_runIn hO k5 hV hW hB (by omega) hM (by omega) (fun f13 v13 r13 => ?_))
    dsimp only [Option.toList, List.cons_append, List.nil_append]
    refine x_pop dX5_runs_16 rfl ?_
    refine x_iload_n dX5_runs_17 rfl ?_
    refine x_callS (As := [_]) hO dX5_runs_18 o_X5_isRun s_X5_isRun l_X5_267 ⟨by decide, by decide⟩ ⟨by decide, by decide⟩ rfl rfl (Nat.le_of_ble_eq_true rfl) (r_isRun hO (fun r18 hr18 => ?_))
    dsimp only [Option.toList, List.cons_append, List.nil_append]
    refine x_iret dX5_runs_21 rfl (nrb hr18) ?_
    simp (disch := omega) only [nI_leI] at hr18
    first
      | (rw [if_pos p1] at hr18
         refine hq _ f13 (by rw [hc, hr18]; rfl) (by rw [hc]; exact v13) (fun a ha => r13 a (by omega) (by omega))
         done)
      | (rw [if_neg p1] at hr18
         exact hq _ (gI C) (by rw [hc, hr18]; rfl) (by rw [hc]; exact hV) (fun _ _ => rfl))
theorem r_renews {G : GT} {C : AH} {Q : QT} {X : XT} {m T : Nat} {τ : Rw} {a d t : Nat} (hO : GO G) (hM : MdS C m) (hV : Vr (gI C) (m + 5) τ) (hk : Ok T τ) (hd : d < 1000000) (ht : t < 1000000) (hq : ∀ (r : Int32) (f : Nat → Nat → Int32), r = (if (doesP 2 a d t τ).1 = true then 1 else 0) → Vr f (m + 5) (doesP 2 a d t τ).2 → (∀ a, (a < m + 2 ∨ a = m + 4 ∨ (m + 6 ≤ a ∧ a ≤ m + 8) ∨ m + 14 ≤ a) → f a = gI C a) → Q (some (.int r)) (wI C f)) : Mt G M_X5_renews [.ref m, .int (nI d), .int (nI t)] C Q X := by
  refine Mt_of (by decide) (Nat.le_of_ble_eq_true rfl) ?_
  obtain ⟨hm0, ⟨g1, g6, g7, g8, g9, g10, g12, g13, g14, g15, g16, g17, g18⟩, k1, k2, k3, k4, k5, k6, k7, k8, k9, k10, k11, k12, k13, hmz⟩ := id hM
  obtain ⟨hW, hB⟩ := id hk
  have t1 : τ 1 ≤ 8 := hW.1
  have t2 : τ 2 ≤ 5 := hW.2.1
  refine x_aload_n dX5_renews_0 rfl ?_
  refine x_iload_n dX5_renews_1 rfl ?_
  refine x_callV (As := [_]) 7 hO dX5_renews_2 o_X5_isThere v_X5_isThere l_X5_280 ⟨by decide, by decide⟩ (by first | (simp only [gK_wI]; assumption) | assumption) ⟨by decide, by decide⟩ rfl ⟨by decide, by decide⟩ rfl rfl (Nat.le_of_ble_eq_true rfl) (r_isThere hO hM hV t1 hd (fun r2 hr2 => ?_))
  dsimp only [Option.toList, List.cons_append, List.nil_append]
  refine x_if_eq (tgt := 30) dX5_renews_5 (by decide) (fun c5 => ?_) (fun c5 => ?_)
  · have p2 := (ite01 hr2).1 c5
    have hc : doesP 2 a d t τ = (false, τ) := if_neg fun q => p2 q.1
    refine x_iconst (v := nI 0) dX5_renews_30 (by decide) ?_
    refine x_iret dX5_renews_31 rfl (by first | rfl | assumption) ?_
    exact hq _ (gI C) (by rw [hc]; rfl) (by rw [hc]; exact hV) (fun _ _ => rfl)
  · have p2 := (ite01 hr2).2 c5
    obtain ⟨b0, b0', b1, b2, b2', b3, b4, b34, b6⟩ := hW.2.2.2.2.2.2.2.2.2.1 d p2
    refine x_iload_n dX5_renews_8 rfl ?_
    refine x_callS (As := [_]) hO dX5_renews_9 o_X5_isBattery s_X5_isBattery l_X5_245 ⟨by decide, by decide⟩ ⟨by decide, by decide⟩ rfl rfl (Nat.le_of_ble_eq_true rfl) (r_isBattery hO (fun r9 hr9 => ?_))
    dsimp only [Option.toList, List.cons_append, List.nil_append]
    refine x_if_eq (tgt := 30) dX5_renews_12 (by decide) (fun c12 => ?_) (fun c12 => ?_)
    · have p9 := (ite01 hr9).1 c12
      simp (disch := omega) only [nI_leI] at p9
      have hc : doesP 2 a d t τ = (false, τ) := if_neg fun q => p9 ⟨q.2.2.1, q.2.2.2⟩
      refine x_iconst (v := nI 0) dX5_renews_30 (by decide) ?_
      refine x_iret dX5_renews_31 rfl (by first | rfl | assumption) ?_
      exact hq _ (gI C) (by rw [hc]; rfl) (by rw [hc]; exact hV) (fun _ _ => rfl)
    · have p9 := (ite01 hr9).2 c12
      simp (disch := omega) only [nI_leI] at p9
      refine x_aload_n dX5_renews_15 rfl ?_
      refine x_get 7 hO dX5_renews_16 f_X5_22 (by first | (simp only [gK_wI]; assumption) | assumption) ⟨by decide, by decide⟩ (v := .ref (m + 5)) (congrArg va_rf g9) ?_
      refine x_iload_n dX5_renews_19 rfl ?_
      refine x_bipush (v := nI 6) dX5_renews_20 (by decide) ?_
      refine x_callS (As := [_, _]) hO dX5_renews_22 o_X5_busAt s_X5_busAt l_X5_67 ⟨by decide, by decide⟩ ⟨by decide, by decide⟩ rfl rfl (Nat.le_of_ble_eq_true rfl) (r_busAt hO ?_)
      dsimp only [Option.toList, List.cons_append, List.nil_append]
      refine x_row _ hO dX5_renews_25 k5 hV rfl (by simp only [bi]; omega) ?_
      refine x_iconst (v := nI 1) dX5_renews_26 (by decide) ?_
      refine x_icmp_ne (tgt := 32) dX5_renews_27 (by decide) (fun c27 => ?_) (fun c27 => ?_)
      · simp (disch := omega) only [nI_eq] at c27
        have hc : doesP 2 a d t τ = (true, btB τ d t) := if_pos ⟨p2, by omega, p9.1, p9.2⟩
        refine x_aload_n dX5_renews_32 rfl ?_
        refine x_get 7 hO dX5_renews_33 f_X5_22 (by first | (simp only [gK_wI]; assumption) | assumption) ⟨by decide, by decide⟩ (v := .ref (m + 5)) (congrArg va_rf g9) ?_
        refine x_iload_n dX5_renews_36 rfl ?_
        refine x_iload_n dX5_renews_37 rfl ?_
        refine x_callS (As := [_, _, _]) hO dX5_renews_38 o_X5_batteryIn s_X5_batteryIn l_X5_261 ⟨by decide, by decide⟩ ⟨by decide, by decide⟩ rfl rfl (Nat.le_of_ble_eq_true rfl) (r_batteryIn hO k5 hV (by omega) (fun f38 v38 r38 => ?_))
        dsimp only [Option.toList, List.cons_append, List.nil_append]
        refine x_pop dX5_renews_41 rfl ?_
        refine x_iconst (v := nI 1) dX5_renews_42 (by decide) ?_
        refine x_iret dX5_renews_43 rfl (by first | rfl | assumption) ?_
        exact hq _ f38 (by rw [hc]; rfl) (by rw [hc]; exact v38) (fun a ha => r38 a (by omega))
      · simp (disch := omega) only [nI_eq] at c27
        have hc : doesP 2 a d t τ = (false, τ) := if_neg fun q => by omega
        refine x_iconst (v := nI 0) dX5_renews_30 (by decide) ?_
        refine x_iret dX5_renews_31 rfl (by first | rfl | assumption) ?_
        exact hq _ (gI C) (by rw [hc]; rfl) (by rw [hc]; exact hV) (fun _ _ => rfl)
theorem r_sets {G : GT} {C : AH} {Q : QT} {X : XT} {m T : Nat} {τ : Rw} {a d t : Nat} (hO : GO G) (hM : MdS C m) (hV : Vr (gI C) (m + 5) τ) (hk : Ok T τ) (hd : d < 1000000) (ht : t < 1000000) (hq : ∀ (r : Int32) (f : Nat → Nat → Int32), r = (if (doesP 3 a d t τ).1 = true then 1 else 0) → Vr f (m + 5) (doesP 3 a d t τ).2 → (∀ a, (a < m + 2 ∨ a = m + 4 ∨ (m + 6 ≤ a ∧ a ≤ m + 8) ∨ m + 14 ≤ a) → f a = gI C a) → Q (some (.int r)) (wI C f)) : Mt G M_X5_sets [.ref m, .int (nI d), .int (nI t)] C Q X := by
  refine Mt_of (by decide) (Nat.le_of_ble_eq_true rfl) ?_
  obtain ⟨hm0, ⟨g1, g6, g7, g8, g9, g10, g12, g13, g14, g15, g16, g17, g18⟩, k1, k2, k3, k4, k5, k6, k7, k8, k9, k10, k11, k12, k13, hmz⟩ := id hM
  obtain ⟨hW, hB⟩ := id hk
  have t1 : τ 1 ≤ 8 := hW.1
  have t2 : τ 2 ≤ 5 := hW.2.1
  have hn : okS (nI d) (nI t) ↔ okSN d t := by
    refine okS_N.trans ⟨?_, fun h => ⟨d, t, rfl, rfl, h⟩⟩
    rintro ⟨k, x, e1, e2, h⟩
    have hx : x ≤ 999 := Nat.le_trans h.2.2 (by unfold hiS; split <;> (try split) <;> (try split) <;> omega)
    have hk6 := h.1
    have e1 := (nI_eq (by omega) (by omega)).mp e1
    have e2 := (nI_eq (by omega) (by omega)).mp e2
    subst e1 e2
    exact h
  refine x_iload_n dX5_sets_0 rfl ?_
  refine x_iload_n dX5_sets_1 rfl ?_
  refine x_callS (As := [_, _]) hO dX5_sets_2 o_X5_isSetting s_X5_isSetting l_X5_182 ⟨by decide, by decide⟩ ⟨by decide, by decide⟩ rfl rfl (Nat.le_of_ble_eq_true rfl) (r_isSetting hO (fun r2 hr2 => ?_))
  dsimp only [Option.toList, List.cons_append, List.nil_append]
  refine x_if_ne (tgt := 10) dX5_sets_5 (by decide) (fun c5 => ?_) (fun c5 => ?_)
  · have p2 := (ite01 hr2).2 c5
    have hc : doesP 3 a d t τ = (true, stS τ d t) := if_pos (hn.mp p2)
    refine x_aload_n dX5_sets_10 rfl ?_
    refine x_get 7 hO dX5_sets_11 f_X5_22 (by first | (simp only [gK_wI]; assumption) | assumption) ⟨by decide, by decide⟩ (v := .ref (m + 5)) (congrArg va_rf g9) ?_
    refine x_bipush (v := nI 7) dX5_sets_14 (by decide) ?_
    refine x_iload_n dX5_sets_16 rfl ?_
    refine x_iadd dX5_sets_17 ?_
    refine x_iload_n dX5_sets_18 rfl ?_
    refine x_rowS (7 + d) t hO dX5_sets_19 k5 hV (nI_add _ _) (by have := (hn.mp p2).1; omega) rfl (fun f19 v19 r19 => ?_)
    refine x_iconst (v := nI 1) dX5_sets_20 (by decide) ?_
    refine x_iret dX5_sets_21 rfl (by first | rfl | assumption) ?_
    exact hq _ f19 (by rw [hc]; rfl) (by rw [hc]; exact v19) (fun a ha => r19 a (by omega))
  · have p2 := (ite01 hr2).1 c5
    have hc : doesP 3 a d t τ = (false, τ) := if_neg fun q => p2 (hn.mpr q)
    refine x_iconst (v := nI 0) dX5_sets_8 (by decide) ?_
    refine x_iret dX5_sets_9 rfl (by first | rfl | assumption) ?_
    exact hq _ (gI C) (by rw [hc]; rfl) (by rw [hc]; exact hV) (fun _ _ => rfl)
theorem r_plugs {G : GT} {C : AH} {Q : QT} {X : XT} {m T : Nat} {τ : Rw} {a d t : Nat} (hO : GO G) (hM : MdS C m) (hV : Vr (gI C) (m + 5) τ) (hk : Ok T τ) (ha : a < 1000000) (hq : ∀ (r : Int32) (f : Nat → Nat → Int32), r = (if (doesP 4 a d t τ).1 = true then 1 else 0) → Vr f (m + 5) (doesP 4 a d t τ).2 → (∀ a, (a < m + 2 ∨ a = m + 4 ∨ (m + 6 ≤ a ∧ a ≤ m + 8) ∨ m + 14 ≤ a) → f a = gI C a) → Q (some (.int r)) (wI C f)) : Mt G M_X5_plugs [.ref m, .int (nI a)] C Q X := by
  refine Mt_of (by decide) (Nat.le_of_ble_eq_true rfl) ?_
  obtain ⟨hm0, ⟨g1, g6, g7, g8, g9, g10, g12, g13, g14, g15, g16, g17, g18⟩, k1, k2, k3, k4, k5, k6, k7, k8, k9, k10, k11, k12, k13, hmz⟩ := id hM
  obtain ⟨hW, hB⟩ := id hk
  have t1 : τ 1 ≤ 8 := hW.1
  have t2 : τ 2 ≤ 5 := hW.2.1
  refine x_iload_n dX5_plugs_0 rfl ?_
  refine x_callS (As := [_]) hO dX5_plugs_1 o_X5_isPower s_X5_isPower l_X5_254 ⟨by decide, by decide⟩ ⟨by decide, by decide⟩ rfl rfl (Nat.le_of_ble_eq_true rfl) (r_isPower hO (fun r1 hr1 => ?_))
  dsimp only [Option.toList, List.cons_append, List.nil_append]
  refine x_if_eq (tgt := 17) dX5_plugs_4 (by decide) (fun c4 => ?_) (fun c4 => ?_)
  · have p1 := (ite01 hr1).1 c4
    simp (disch := omega) only [nI_leI] at p1
    have hc : doesP 4 a d t τ = (false, τ) := if_neg fun q => p1 ⟨q.1, q.2.1⟩
    refine x_iconst (v := nI 0) dX5_plugs_17 (by decide) ?_
    refine x_iret dX5_plugs_18 rfl (by first | rfl | assumption) ?_
    exact hq _ (gI C) (by rw [hc]; rfl) (by rw [hc]; exact hV) (fun _ _ => rfl)
  · have p1 := (ite01 hr1).2 c4
    simp (disch := omega) only [nI_leI] at p1
    refine x_aload_n dX5_plugs_7 rfl ?_
    refine x_get 7 hO dX5_plugs_8 f_X5_22 (by first | (simp only [gK_wI]; assumption) | assumption) ⟨by decide, by decide⟩ (v := .ref (m + 5)) (congrArg va_rf g9) ?_
    refine x_iconst (v := nI 2) dX5_plugs_11 (by decide) ?_
    refine x_row _ hO dX5_plugs_12 k5 hV rfl (by omega) ?_
    refine x_iconst (v := nI 5) dX5_plugs_13 (by decide) ?_
    refine x_icmp_ne (tgt := 19) dX5_plugs_14 (by decide) (fun c14 => ?_) (fun c14 => ?_)
    · simp (disch := omega) only [nI_eq] at c14
      have hc : doesP 4 a d t τ = (true, addC τ a) := if_pos ⟨p1.1, p1.2, by omega⟩
      refine x_aload_n dX5_plugs_19 rfl ?_
      refine x_get 7 hO dX5_plugs_20 f_X5_22 (by first | (simp only [gK_wI]; assumption) | assumption) ⟨by decide, by decide⟩ (v := .ref (m + 5)) (congrArg va_rf g9) ?_
      refine x_iload_n dX5_plugs_23 rfl ?_
      refine x_callS (As := [_, _]) hO dX5_plugs_24 o_X5_addPlugIn s_X5_addPlugIn l_X5_186 ⟨by decide, by decide⟩ ⟨by decide, by decide⟩ rfl rfl (Nat.le_of_ble_eq_true rfl) (r_addPlugIn hO k5 hV (by omega) (fun f24 v24 r24 => ?_))
      dsimp only [Option.toList, List.cons_append, List.nil_append]
      refine x_pop dX5_plugs_27 rfl ?_
      refine x_iconst (v := nI 1) dX5_plugs_28 (by decide) ?_
      refine x_iret dX5_plugs_29 rfl (by first | rfl | assumption) ?_
      exact hq _ f24 (by rw [hc]; rfl) (by rw [hc]; exact v24) (fun a ha => r24 a (by omega))
    · simp (disch := omega) only [nI_eq] at c14
      have hc : doesP 4 a d t τ = (false, τ) := if_neg fun q => by omega
      refine x_iconst (v := nI 0) dX5_plugs_17 (by decide) ?_
      refine x_iret dX5_plugs_18 rfl (by first | rfl | assumption) ?_
      exact hq _ (gI C) (by rw [hc]; rfl) (by rw [hc]; exact hV) (fun _ _ => rfl)
theorem enc_nI {o : Option Nat} {c : Nat} (ho : ∀ n, o = some n → n < 2147483648) (hc : c < 2147483648) : enc o = nI c ↔ o = some c := by
  cases o with
  | none => exact ⟨fun q => absurd q.symm (nI_m1 hc), (fun q => nomatch q)⟩
  | some n => exact ⟨fun q => by rw [(nI_eq (ho n rfl) hc).mp q], fun q => by cases q; rfl⟩
theorem r_wouldBeAt {G : GT} {C : AH} {Q : QT} {X : XT} {m T : Nat} {τ : Rw} {d c : Nat} (hO : GO G) (hM : MdS C m) (hV : Vr (gI C) (m + 5) τ) (hk : Ok T τ) (hT : T ≤ 48000) (hd : d < 8) (hc : c < 1000000) (hq : ∀ (r : Int32) (f : Nat → Nat → Int32), r = (if d < τ 1 ∧ (pvw τ).2.2.2.1 d = some c then 1 else 0) → Vr f (m + 5) τ → (∀ a, (a < m + 2 ∨ a = m + 4 ∨ (m + 6 ≤ a ∧ a ≤ m + 8) ∨ m + 14 ≤ a) → f a = gI C a) → Q (some (.int r)) (wI C f)) : Mt G M_X5_wouldBeAt [.ref m, .int (nI d), .int (nI c)] C Q X := by
  refine Mt_of (by decide) (Nat.le_of_ble_eq_true rfl) ?_
  obtain ⟨hm0, ⟨g1, g6, g7, g8, g9, g10, g12, g13, g14, g15, g16, g17, g18⟩, k1, k2, k3, k4, k5, k6, k7, k8, k9, k10, k11, k12, k13, hmz⟩ := id hM
  obtain ⟨hW, hB⟩ := id hk
  have t1 : τ 1 ≤ 8 := hW.1
  have t2 : τ 2 ≤ 5 := hW.2.1
  have h0 : τ 0 < 1000000 := by have := hB.1; omega
  have b00 : back τ 0 = τ 0 := back_o fun b hb => by simp only [bi]; omega
  have hBb := Bd_back hB hW.1
  have hwb : ∀ b, b < back τ 1 → back τ (bi b 5) < 2000000 := fun b hb => by have := hBb.2.2.2.2.2 b hb; omega
  have hWm := (Wf_mved hW).1
  have hm2 := mved_2 hW
  have hpl : ∀ n, (pvw τ).2.2.2.1 d = some n → n < τ 2 := fun n h => by
    have := pl_lt (ρ := mved τ) (by rw [hm2]; exact t2) (Nat.le_refl _) d n h
    rw [hm2] at this
    exact this
  refine x_aload_n dX5_wouldBeAt_0 rfl ?_
  refine x_get 7 hO dX5_wouldBeAt_1 f_X5_22 (by first | (simp only [gK_wI]; assumption) | assumption) ⟨by decide, by decide⟩ (v := .ref (m + 5)) (congrArg va_rf g9) ?_
  refine x_iconst (v := nI 0) dX5_wouldBeAt_4 (by decide) ?_
  refine x_aload_n dX5_wouldBeAt_5 rfl ?_
  refine x_get 7 hO dX5_wouldBeAt_6 f_X5_13 (by first | (simp only [gK_wI]; assumption) | assumption) ⟨by decide, by decide⟩ (v := .ref (m + 2)) (congrArg va_rf g6) ?_
  refine x_iconst (v := nI 0) dX5_wouldBeAt_9 (by decide) ?_
  refine x_bipush (v := nI 74) dX5_wouldBeAt_10 (by decide) ?_
  refine x_callS (As := [_, _, _, _, _]) hO dX5_wouldBeAt_12 o_X5_copy s_X5_copy l_X5_63 ⟨by decide, by decide⟩ ⟨by decide, by decide⟩ rfl rfl (Nat.le_of_ble_eq_true rfl) (r_copy (sp := 0) (dp := 0) (n := 74) hO k5 k2 (by decide) (by decide) (by decide) (by decide) (Or.inl (by omega)) (fun f12 h1 h2 h3 => ?_))
  dsimp only [Option.toList, List.cons_append, List.nil_append]
  have v12 : Vr f12 (m + 2) τ := fun j hj => by
    have e := h1 j hj
    rw [Nat.zero_add] at e
    exact e.trans (hV j hj)
  refine x_aload_n dX5_wouldBeAt_15 rfl ?_
  refine x_get 7 hO dX5_wouldBeAt_16 f_X5_13 (by first | (simp only [gK_wI]; assumption) | assumption) ⟨by decide, by decide⟩ (v := .ref (m + 2)) (congrArg va_rf g6) ?_
  refine x_callS (As := [_]) hO dX5_wouldBeAt_19 o_X5_comeBack s_X5_comeBack l_X5_104 ⟨by decide, by decide⟩ ⟨by decide, by decide⟩ rfl rfl (Nat.le_of_ble_eq_true rfl) (r_comeBack hO k2 v12 hW h0 (fun f19 v19 r19 => ?_))
  dsimp only [Option.toList, List.cons_append, List.nil_append]
  simp only [gI_wI] at r19
  try simp only [wI_wI, gI_wI]
  refine x_aload_n dX5_wouldBeAt_22 rfl ?_
  refine x_get 7 hO dX5_wouldBeAt_23 f_X5_13 (by first | (simp only [gK_wI]; assumption) | assumption) ⟨by decide, by decide⟩ (v := .ref (m + 2)) (congrArg va_rf g6) ?_
  refine x_callS (As := [_]) hO dX5_wouldBeAt_26 o_X5_leave s_X5_leave l_X5_107 ⟨by decide, by decide⟩ ⟨by decide, by decide⟩ rfl rfl (Nat.le_of_ble_eq_true rfl) (r_leave hO k2 v19 (Wf_back hW).1 (by rw [b00]; exact h0) hwb (fun f26 v26 r26 => ?_))
  dsimp only [Option.toList, List.cons_append, List.nil_append]
  simp only [gI_wI] at r26
  try simp only [wI_wI, gI_wI]
  have v26 : Vr f26 (m + 2) (mved τ) := v26
  refine x_aload_n dX5_wouldBeAt_29 rfl ?_
  refine x_aload_n dX5_wouldBeAt_30 rfl ?_
  refine x_get 7 hO dX5_wouldBeAt_31 f_X5_13 (by first | (simp only [gK_wI]; assumption) | assumption) ⟨by decide, by decide⟩ (v := .ref (m + 2)) (congrArg va_rf g6) ?_
  refine x_callV (As := [_]) 7 hO dX5_wouldBeAt_34 o_X5_lay v_X5_lay l_X5_110 ⟨by decide, by decide⟩ (by first | (simp only [gK_wI]; assumption) | assumption) ⟨by decide, by decide⟩ rfl ⟨by decide, by decide⟩ rfl rfl (Nat.le_of_ble_eq_true rfl) (r_lay (ρ := mved τ) hO k2 v26 hWm (by rw [mved_0]; exact h0) (MdS_wI hM) (by omega) (fun f34 y34 l34 r34 => ?_))
  dsimp only [Option.toList, List.cons_append, List.nil_append]
  simp only [gI_wI] at r34
  try simp only [wI_wI, gI_wI]
  have SF : ∀ a, (a < m + 2 ∨ a = m + 4 ∨ (m + 6 ≤ a ∧ a ≤ m + 8) ∨ m + 14 ≤ a) → f34 a = gI C a := fun a ha => (r34 a (by omega)).trans ((r26 a (by omega)).trans ((r19 a (by omega)).trans (h3 a (by omega))))
  have v5 : Vr f34 (m + 5) τ := Vr_to hV ((r34 _ (by omega)).trans ((r26 _ (by omega)).trans ((r19 _ (by omega)).trans (h3 _ (by omega)))))
  refine x_aload_n dX5_wouldBeAt_37 rfl ?_
  refine x_iload_n dX5_wouldBeAt_38 rfl ?_
  refine x_callV (As := [_]) 7 hO dX5_wouldBeAt_39 o_X5_isThere v_X5_isThere l_X5_280 ⟨by decide, by decide⟩ (by first | (simp only [gK_wI]; assumption) | assumption) ⟨by decide, by decide⟩ rfl ⟨by decide, by decide⟩ rfl rfl (Nat.le_of_ble_eq_true rfl) (r_isThere (C := wI C f34) hO (MdS_wI hM) v5 t1 (by omega) (fun r39 hr39 => ?_))
  dsimp only [Option.toList, List.cons_append, List.nil_append]
  refine x_if_eq (tgt := 69) dX5_wouldBeAt_42 (by decide) (fun c42 => ?_) (fun c42 => ?_)
  · have p39 := (ite01 hr39).1 c42
    have hz : ¬ (d < τ 1 ∧ (pvw τ).2.2.2.1 d = some c) := fun q => p39 q.1
    refine x_iconst (v := nI 0) dX5_wouldBeAt_69 (by decide) ?_
    refine x_iret dX5_wouldBeAt_70 rfl (by first | rfl | assumption) ?_
    refine hq _ f34 ?_ v5 SF
    first
      | exact (if_pos hz).symm
      | exact (if_neg hz).symm
  · have p39 := (ite01 hr39).2 c42
    refine x_iload_n dX5_wouldBeAt_45 rfl ?_
    refine x_aload_n dX5_wouldBeAt_46 rfl ?_
    refine x_get 7 hO dX5_wouldBeAt_47 f_X5_22 (by first | (simp only [gK_wI]; assumption) | assumption) ⟨by decide, by decide⟩ (v := .ref (m + 5)) (congrArg va_rf g9) ?_
    refine x_iconst (v := nI 2) dX5_wouldBeAt_50 (by decide) ?_
    refine x_row 2 hO dX5_wouldBeAt_51 k5 v5 rfl (by decide) ?_
    refine x_icmp_ge (tgt := 69) dX5_wouldBeAt_52 (by decide) (fun c52 => ?_) (fun c52 => ?_)
    · simp (disch := omega) only [nI_leI] at c52
      have hz : ¬ (d < τ 1 ∧ (pvw τ).2.2.2.1 d = some c) := fun q => by have := hpl _ q.2; omega
      refine x_iconst (v := nI 0) dX5_wouldBeAt_69 (by decide) ?_
      refine x_iret dX5_wouldBeAt_70 rfl (by first | rfl | assumption) ?_
      refine hq _ f34 ?_ v5 SF
      first
        | exact (if_pos hz).symm
        | exact (if_neg hz).symm
    · simp (disch := omega) only [nI_leI] at c52
      refine x_aload_n dX5_wouldBeAt_55 rfl ?_
      refine x_get 7 hO dX5_wouldBeAt_56 f_X5_44 (by first | (simp only [gK_wI]; assumption) | assumption) ⟨by decide, by decide⟩ (v := .ref (m + 12)) (congrArg va_rf g17) ?_
      refine x_iload_n dX5_wouldBeAt_59 rfl ?_
      refine x_iald d 8 hO dX5_wouldBeAt_60 k12.1 rfl k12.2 hd (by decide) ?_
      rw [show gI (wI C f34) (m + 12) d = enc ((pvw τ).2.2.2.1 d) from y34.2.2.1 d hd]
      refine x_iload_n dX5_wouldBeAt_61 rfl ?_
      refine x_icmp_ne (tgt := 69) dX5_wouldBeAt_62 (by decide) (fun c62 => ?_) (fun c62 => ?_)
      · rw [enc_nI (fun n h => by have := hpl n h; omega) (by omega)] at c62
        have hz : ¬ (d < τ 1 ∧ (pvw τ).2.2.2.1 d = some c) := fun q => c62 q.2
        refine x_iconst (v := nI 0) dX5_wouldBeAt_69 (by decide) ?_
        refine x_iret dX5_wouldBeAt_70 rfl (by first | rfl | assumption) ?_
        refine hq _ f34 ?_ v5 SF
        first
          | exact (if_pos hz).symm
          | exact (if_neg hz).symm
      · rw [enc_nI (fun n h => by have := hpl n h; omega) (by omega)] at c62
        have hz : d < τ 1 ∧ (pvw τ).2.2.2.1 d = some c := ⟨p39, c62⟩
        refine x_iconst (v := nI 1) dX5_wouldBeAt_65 (by decide) ?_
        refine x_goto (tgt := 70) dX5_wouldBeAt_66 (by decide) ?_
        refine x_iret dX5_wouldBeAt_70 rfl (by first | rfl | assumption) ?_
        refine hq _ f34 ?_ v5 SF
        first
          | exact (if_pos hz).symm
          | exact (if_neg hz).symm

theorem r_does {G : GT} {C : AH} {Q : QT} {X : XT} {m T : Nat} {τ : Rw} {g : Nat} (hO : GO G) (hM : MdS C m) (hV : Vr (gI C) (m + 5) τ) (hk : Ok T τ) (hT : T ≤ 48000) (hg : g < 100000) (hq : ∀ (r : Int32) (f : Nat → Nat → Int32), r = (if (does g τ).1 = true then 1 else 0) → Vr f (m + 5) (does g τ).2 → (∀ a, (a < m + 2 ∨ a = m + 4 ∨ (m + 6 ≤ a ∧ a ≤ m + 8) ∨ m + 14 ≤ a) → f a = gI C a) → Q (some (.int r)) (wI C f)) : Mt G M_X5_does [.ref m, .int (nI g)] C Q X := by
  refine Mt_of (by decide) (Nat.le_of_ble_eq_true rfl) ?_
  obtain ⟨hm0, ⟨g1, g6, g7, g8, g9, g10, g12, g13, g14, g15, g16, g17, g18⟩, k1, k2, k3, k4, k5, k6, k7, k8, k9, k10, k11, k12, k13, hmz⟩ := id hM
  obtain ⟨hW, hB⟩ := id hk
  have t1 : τ 1 ≤ 8 := hW.1
  have t2 : τ 2 ≤ 5 := hW.2.1
  obtain ⟨g0, g3, g4, g5', g6', g7'⟩ := id hB
  obtain ⟨a, ha⟩ : ∃ a, g % 10000 = a := ⟨_, rfl⟩
  obtain ⟨d, hd⟩ : ∃ d, a / 1000 = d := ⟨_, rfl⟩
  obtain ⟨t, ht⟩ : ∃ t, a % 1000 = t := ⟨_, rfl⟩
  obtain ⟨w, hw⟩ : ∃ w, g / 10000 = w := ⟨_, rfl⟩
  have hd9 : g / 1000 % 10 = d := by omega
  have ht9 : g % 1000 = t := by omega
  refine x_iload_n dX5_does_0 rfl ?_
  refine x_sipush (v := nI 10000) dX5_does_1 (by decide) ?_
  refine x_idiv dX5_does_4 (by decide) ?_
  rw [pk_div (by omega) (by decide) (by decide), hw]
  refine x_istore_n dX5_does_5 (by decide) ?_
  refine x_iload_n dX5_does_6 rfl ?_
  refine x_sipush (v := nI 1000) dX5_does_7 (by decide) ?_
  refine x_idiv dX5_does_10 (by decide) ?_
  rw [pk_div (by omega) (by decide) (by decide)]
  refine x_bipush (v := nI 10) dX5_does_11 (by decide) ?_
  refine x_irem dX5_does_13 (by decide) ?_
  rw [pk_rem (by omega) (by decide) (by decide), hd9]
  refine x_istore_n dX5_does_14 (by decide) ?_
  refine x_iload_n dX5_does_15 rfl ?_
  refine x_sipush (v := nI 1000) dX5_does_16 (by decide) ?_
  refine x_irem dX5_does_19 (by decide) ?_
  rw [pk_rem (by omega) (by decide) (by decide), ht9]
  refine x_istore dX5_does_20 (by decide) ?_
  refine x_iload_n dX5_does_22 rfl ?_
  refine x_sipush (v := nI 10000) dX5_does_23 (by decide) ?_
  refine x_irem dX5_does_26 (by decide) ?_
  rw [pk_rem (by omega) (by decide) (by decide), ha]
  refine x_bipush (v := nI 100) dX5_does_27 (by decide) ?_
  refine x_icmp_ge (tgt := 36) dX5_does_29 (by decide) (fun c29 => ?_) (fun c29 => ?_)
  · simp (disch := omega) only [nI_leI] at c29
    refine x_iconst (v := nI 0) dX5_does_36 (by decide) ?_
    refine x_istore dX5_does_37 (by decide) ?_
    refine x_iload_n dX5_does_39 rfl ?_
    rcases (show w = 0 ∨ w = 1 ∨ w = 2 ∨ w = 3 ∨ w = 4 ∨ w = 5 ∨ w = 6 ∨ w = 7 ∨ w = 8 ∨ w = 9 by omega) with rfl | rfl | rfl | rfl | rfl | rfl | rfl | rfl | rfl | rfl
    · have hD : does g τ = doesP 0 a d t τ := by unfold does; rw [hw, ha, hd, ht]
      refine x_tableOut (tgt := 289) dX5_does_40 (by decide +kernel) (by decide) ?_
      refine x_iconst (v := nI 0) dX5_does_289 (by decide) ?_
      refine x_iret dX5_does_290 rfl (by first | rfl | assumption) ?_
      exact hq _ (gI C) (by rw [hD]; rfl) (by rw [hD]; exact hV) (fun _ _ => rfl)
    · have hD : does g τ = doesP 1 a d t τ := by unfold does; rw [hw, ha, hd, ht]
      refine x_tableIn (off := 52) (tgt := 92) dX5_does_40 (by decide +kernel) (by decide +kernel) (by decide +kernel) (by decide) ?_
      refine x_iload dX5_does_92 rfl ?_
      refine x_if_eq (tgt := 110) dX5_does_94 (by decide) (fun c94 => ?_) (fun c94 => ?_)
      · refine x_iconst (v := nI 0) dX5_does_110 (by decide) ?_
        refine x_iret dX5_does_111 rfl (by first | rfl | assumption) ?_
        exact hq _ (gI C) (by rw [hD, show doesP 1 a d t τ = (false, τ) from if_neg (by omega)]; rfl) (by rw [hD, show doesP 1 a d t τ = (false, τ) from if_neg (by omega)]; exact hV) (fun _ _ => rfl)
      · exact absurd rfl c94
    · have hD : does g τ = doesP 2 a d t τ := by unfold does; rw [hw, ha, hd, ht]
      refine x_tableIn (off := 72) (tgt := 112) dX5_does_40 (by decide +kernel) (by decide +kernel) (by decide +kernel) (by decide) ?_
      refine x_aload_n dX5_does_112 rfl ?_
      refine x_iload_n dX5_does_113 rfl ?_
      refine x_iload dX5_does_114 rfl ?_
      refine x_callV (As := [_, _]) 7 hO dX5_does_116 o_X5_renews v_X5_renews l_X5_286 ⟨by decide, by decide⟩ (by first | (simp only [gK_wI]; assumption) | assumption) ⟨by decide, by decide⟩ rfl ⟨by decide, by decide⟩ rfl rfl (Nat.le_of_ble_eq_true rfl) (r_renews (a := a) hO hM hV hk (by omega) (by omega) (fun r116 f116 hr116 v116 w116 => ?_))
      dsimp only [Option.toList, List.cons_append, List.nil_append]
      refine x_iret dX5_does_119 rfl (nrb hr116) ?_
      exact hq _ f116 (by rw [hD]; exact hr116) (by rw [hD]; exact v116) w116
    · have hD : does g τ = doesP 3 a d t τ := by unfold does; rw [hw, ha, hd, ht]
      refine x_tableIn (off := 80) (tgt := 120) dX5_does_40 (by decide +kernel) (by decide +kernel) (by decide +kernel) (by decide) ?_
      refine x_aload_n dX5_does_120 rfl ?_
      refine x_iload_n dX5_does_121 rfl ?_
      refine x_iload dX5_does_122 rfl ?_
      refine x_callV (As := [_, _]) 7 hO dX5_does_124 o_X5_sets v_X5_sets l_X5_289 ⟨by decide, by decide⟩ (by first | (simp only [gK_wI]; assumption) | assumption) ⟨by decide, by decide⟩ rfl ⟨by decide, by decide⟩ rfl rfl (Nat.le_of_ble_eq_true rfl) (r_sets (a := a) hO hM hV hk (by omega) (by omega) (fun r124 f124 hr124 v124 w124 => ?_))
      dsimp only [Option.toList, List.cons_append, List.nil_append]
      refine x_iret dX5_does_127 rfl (nrb hr124) ?_
      exact hq _ f124 (by rw [hD]; exact hr124) (by rw [hD]; exact v124) w124
    · have hD : does g τ = doesP 4 a d t τ := by unfold does; rw [hw, ha, hd, ht]
      refine x_tableIn (off := 88) (tgt := 128) dX5_does_40 (by decide +kernel) (by decide +kernel) (by decide +kernel) (by decide) ?_
      refine x_iload dX5_does_128 rfl ?_
      refine x_if_eq (tgt := 146) dX5_does_130 (by decide) (fun c130 => ?_) (fun c130 => ?_)
      · refine x_iconst (v := nI 0) dX5_does_146 (by decide) ?_
        refine x_iret dX5_does_147 rfl (by first | rfl | assumption) ?_
        exact hq _ (gI C) (by rw [hD, show doesP 4 a d t τ = (false, τ) from if_neg (by omega)]; rfl) (by rw [hD, show doesP 4 a d t τ = (false, τ) from if_neg (by omega)]; exact hV) (fun _ _ => rfl)
      · exact absurd rfl c130
    · have hD : does g τ = doesP 5 a d t τ := by unfold does; rw [hw, ha, hd, ht]
      refine x_tableIn (off := 108) (tgt := 148) dX5_does_40 (by decide +kernel) (by decide +kernel) (by decide +kernel) (by decide) ?_
      refine x_aload_n dX5_does_148 rfl ?_
      refine x_iload_n dX5_does_149 rfl ?_
      refine x_callV (As := [_]) 7 hO dX5_does_150 o_X5_isThere v_X5_isThere l_X5_280 ⟨by decide, by decide⟩ (by first | (simp only [gK_wI]; assumption) | assumption) ⟨by decide, by decide⟩ rfl ⟨by decide, by decide⟩ rfl rfl (Nat.le_of_ble_eq_true rfl) (r_isThere hO hM hV t1 (by omega) (fun r150 hr150 => ?_))
      dsimp only [Option.toList, List.cons_append, List.nil_append]
      refine x_if_eq (tgt := 175) dX5_does_153 (by decide) (fun c153 => ?_) (fun c153 => ?_)
      · have p150 := (ite01 hr150).1 c153
        refine x_iconst (v := nI 0) dX5_does_175 (by decide) ?_
        refine x_iret dX5_does_176 rfl (by first | rfl | assumption) ?_
        refine hq _ (gI C) (by rw [hD]; first | exact (if_pos (by simp [doesP]; omega)).symm | exact (if_neg (by simp [doesP]; omega)).symm) (by rw [hD]; exact hV) (fun _ _ => rfl)
      · have p150 := (ite01 hr150).2 c153
        obtain ⟨b0, b0', b1, b2, b2', b3, b4, b34, b6⟩ := hW.2.2.2.2.2.2.2.2.2.1 d p150
        refine x_aload_n dX5_does_156 rfl ?_
        refine x_get 7 hO dX5_does_157 f_X5_22 (by first | (simp only [gK_wI]; assumption) | assumption) ⟨by decide, by decide⟩ (v := .ref (m + 5)) (congrArg va_rf g9) ?_
        refine x_iload_n dX5_does_160 rfl ?_
        refine x_iconst (v := nI 1) dX5_does_161 (by decide) ?_
        refine x_callS (As := [_, _]) hO dX5_does_162 o_X5_busAt s_X5_busAt l_X5_67 ⟨by decide, by decide⟩ ⟨by decide, by decide⟩ rfl rfl (Nat.le_of_ble_eq_true rfl) (r_busAt hO ?_)
        dsimp only [Option.toList, List.cons_append, List.nil_append]
        refine x_row _ hO dX5_does_165 k5 hV rfl (by simp only [bi]; omega) ?_
        refine x_iload dX5_does_166 rfl ?_
        refine x_icmp_lt (tgt := 175) dX5_does_168 (by decide) (fun c168 => ?_) (fun c168 => ?_)
        · simp (disch := omega) only [nI_ltI] at c168
          refine x_iconst (v := nI 0) dX5_does_175 (by decide) ?_
          refine x_iret dX5_does_176 rfl (by first | rfl | assumption) ?_
          refine hq _ (gI C) (by rw [hD]; first | exact (if_pos (by simp [doesP]; omega)).symm | exact (if_neg (by simp [doesP]; omega)).symm) (by rw [hD]; exact hV) (fun _ _ => rfl)
        · simp (disch := omega) only [nI_ltI] at c168
          refine x_iconst (v := nI 1) dX5_does_171 (by decide) ?_
          refine x_goto (tgt := 176) dX5_does_172 (by decide) ?_
          refine x_iret dX5_does_176 rfl (by first | rfl | assumption) ?_
          refine hq _ (gI C) (by rw [hD]; first | exact (if_pos (by simp [doesP]; omega)).symm | exact (if_neg (by simp [doesP]; omega)).symm) (by rw [hD]; exact hV) (fun _ _ => rfl)
    · have hD : does g τ = doesP 6 a d t τ := by unfold does; rw [hw, ha, hd, ht]
      refine x_tableIn (off := 137) (tgt := 177) dX5_does_40 (by decide +kernel) (by decide +kernel) (by decide +kernel) (by decide) ?_
      refine x_iload dX5_does_177 rfl ?_
      refine x_if_ne (tgt := 209) dX5_does_179 (by decide) (fun c179 => ?_) (fun c179 => ?_)
      · simp (disch := omega) only [nI_z] at c179
        refine x_iconst (v := nI 0) dX5_does_209 (by decide) ?_
        refine x_iret dX5_does_210 rfl (by first | rfl | assumption) ?_
        refine hq _ (gI C) (by rw [hD]; first | exact (if_pos (by simp [doesP]; omega)).symm | exact (if_neg (by simp [doesP]; omega)).symm) (by rw [hD]; exact hV) (fun _ _ => rfl)
      · simp (disch := omega) only [nI_z] at c179
        refine x_aload_n dX5_does_182 rfl ?_
        refine x_iload_n dX5_does_183 rfl ?_
        refine x_callV (As := [_]) 7 hO dX5_does_184 o_X5_isThere v_X5_isThere l_X5_280 ⟨by decide, by decide⟩ (by first | (simp only [gK_wI]; assumption) | assumption) ⟨by decide, by decide⟩ rfl ⟨by decide, by decide⟩ rfl rfl (Nat.le_of_ble_eq_true rfl) (r_isThere hO hM hV t1 (by omega) (fun r184 hr184 => ?_))
        dsimp only [Option.toList, List.cons_append, List.nil_append]
        refine x_if_eq (tgt := 209) dX5_does_187 (by decide) (fun c187 => ?_) (fun c187 => ?_)
        · have p184 := (ite01 hr184).1 c187
          refine x_iconst (v := nI 0) dX5_does_209 (by decide) ?_
          refine x_iret dX5_does_210 rfl (by first | rfl | assumption) ?_
          refine hq _ (gI C) (by rw [hD]; first | exact (if_pos (by simp [doesP]; omega)).symm | exact (if_neg (by simp [doesP]; omega)).symm) (by rw [hD]; exact hV) (fun _ _ => rfl)
        · have p184 := (ite01 hr184).2 c187
          obtain ⟨b0, b0', b1, b2, b2', b3, b4, b34, b6⟩ := hW.2.2.2.2.2.2.2.2.2.1 d p184
          refine x_aload_n dX5_does_190 rfl ?_
          refine x_get 7 hO dX5_does_191 f_X5_22 (by first | (simp only [gK_wI]; assumption) | assumption) ⟨by decide, by decide⟩ (v := .ref (m + 5)) (congrArg va_rf g9) ?_
          refine x_iload_n dX5_does_194 rfl ?_
          refine x_bipush (v := nI 6) dX5_does_195 (by decide) ?_
          refine x_callS (As := [_, _]) hO dX5_does_197 o_X5_busAt s_X5_busAt l_X5_67 ⟨by decide, by decide⟩ ⟨by decide, by decide⟩ rfl rfl (Nat.le_of_ble_eq_true rfl) (r_busAt hO ?_)
          dsimp only [Option.toList, List.cons_append, List.nil_append]
          refine x_row _ hO dX5_does_200 k5 hV rfl (by simp only [bi]; omega) ?_
          refine x_iconst (v := nI 1) dX5_does_201 (by decide) ?_
          refine x_icmp_ne (tgt := 209) dX5_does_202 (by decide) (fun c202 => ?_) (fun c202 => ?_)
          · simp (disch := omega) only [nI_eq] at c202
            refine x_iconst (v := nI 0) dX5_does_209 (by decide) ?_
            refine x_iret dX5_does_210 rfl (by first | rfl | assumption) ?_
            refine hq _ (gI C) (by rw [hD]; first | exact (if_pos (by simp [doesP]; omega)).symm | exact (if_neg (by simp [doesP]; omega)).symm) (by rw [hD]; exact hV) (fun _ _ => rfl)
          · simp (disch := omega) only [nI_eq] at c202
            refine x_iconst (v := nI 1) dX5_does_205 (by decide) ?_
            refine x_goto (tgt := 210) dX5_does_206 (by decide) ?_
            refine x_iret dX5_does_210 rfl (by first | rfl | assumption) ?_
            refine hq _ (gI C) (by rw [hD]; first | exact (if_pos (by simp [doesP]; omega)).symm | exact (if_neg (by simp [doesP]; omega)).symm) (by rw [hD]; exact hV) (fun _ _ => rfl)
    · have hD : does g τ = doesP 7 a d t τ := by unfold does; rw [hw, ha, hd, ht]
      refine x_tableIn (off := 171) (tgt := 211) dX5_does_40 (by decide +kernel) (by decide +kernel) (by decide +kernel) (by decide) ?_
      refine x_iload dX5_does_211 rfl ?_
      refine x_if_eq (tgt := 231) dX5_does_213 (by decide) (fun c213 => ?_) (fun c213 => ?_)
      · refine x_iconst (v := nI 0) dX5_does_231 (by decide) ?_
        refine x_iret dX5_does_232 rfl (by first | rfl | assumption) ?_
        refine hq _ (gI C) (by rw [hD]; first | exact (if_pos (by simp [doesP]; omega)).symm | exact (if_neg (by simp [doesP]; omega)).symm) (by rw [hD]; exact hV) (fun _ _ => rfl)
      · exact absurd rfl c213
    · have hD : does g τ = doesP 8 a d t τ := by unfold does; rw [hw, ha, hd, ht]
      refine x_tableIn (off := 193) (tgt := 233) dX5_does_40 (by decide +kernel) (by decide +kernel) (by decide +kernel) (by decide) ?_
      refine x_iload dX5_does_233 rfl ?_
      refine x_bipush (v := nI 100) dX5_does_235 (by decide) ?_
      refine x_irem dX5_does_237 (by decide) ?_
      rw [pk_rem (by omega) (by decide) (by decide)]
      refine x_if_ne (tgt := 264) dX5_does_238 (by decide) (fun c238 => ?_) (fun c238 => ?_)
      · simp (disch := omega) only [nI_z] at c238
        refine x_iconst (v := nI 0) dX5_does_264 (by decide) ?_
        refine x_iret dX5_does_265 rfl (by first | rfl | assumption) ?_
        first
          | (exact hq _ f254 (by rw [hD]; exact (if_pos (by simp [doesP]; exact ⟨c238, p254.1, p254.2⟩)).symm) (by rw [hD]; exact v254) w254
             done)
          | (exact hq _ f254 (by rw [hD]; exact (if_neg (by simp [doesP]; intro _ q1 q2; exact p254 ⟨q1, q2⟩)).symm) (by rw [hD]; exact v254) w254
             done)
          | exact hq _ (gI C) (by rw [hD]; exact (if_neg (by simp [doesP]; omega)).symm) (by rw [hD]; exact hV) (fun _ _ => rfl)
      · simp (disch := omega) only [nI_z] at c238
        refine x_iload_n dX5_does_241 rfl ?_
        refine x_bipush (v := nI 8) dX5_does_242 (by decide) ?_
        refine x_icmp_ge (tgt := 264) dX5_does_244 (by decide) (fun c244 => ?_) (fun c244 => ?_)
        · simp (disch := omega) only [nI_leI] at c244
          refine x_iconst (v := nI 0) dX5_does_264 (by decide) ?_
          refine x_iret dX5_does_265 rfl (by first | rfl | assumption) ?_
          first
            | (exact hq _ f254 (by rw [hD]; exact (if_pos (by simp [doesP]; exact ⟨c238, p254.1, p254.2⟩)).symm) (by rw [hD]; exact v254) w254
               done)
            | (exact hq _ f254 (by rw [hD]; exact (if_neg (by simp [doesP]; intro _ q1 q2; exact p254 ⟨q1, q2⟩)).symm) (by rw [hD]; exact v254) w254
               done)
            | exact hq _ (gI C) (by rw [hD]; exact (if_neg (by simp [doesP]; omega)).symm) (by rw [hD]; exact hV) (fun _ _ => rfl)
        · simp (disch := omega) only [nI_leI] at c244
          refine x_aload_n dX5_does_247 rfl ?_
          refine x_iload_n dX5_does_248 rfl ?_
          refine x_iload dX5_does_249 rfl ?_
          refine x_bipush (v := nI 100) dX5_does_251 (by decide) ?_
          refine x_idiv dX5_does_253 (by decide) ?_
          rw [pk_div (by omega) (by decide) (by decide)]
          refine x_callV (As := [_, _]) 7 hO dX5_does_254 o_X5_wouldBeAt v_X5_wouldBeAt l_X5_295 ⟨by decide, by decide⟩ (by first | (simp only [gK_wI]; assumption) | assumption) ⟨by decide, by decide⟩ rfl ⟨by decide, by decide⟩ rfl rfl (Nat.le_of_ble_eq_true rfl) (r_wouldBeAt hO hM hV hk hT (by omega) (by omega) (fun r254 f254 hr254 v254 w254 => ?_))
          dsimp only [Option.toList, List.cons_append, List.nil_append]
          refine x_if_eq (tgt := 264) dX5_does_257 (by decide) (fun c257 => ?_) (fun c257 => ?_)
          · have p254 := (ite01 hr254).1 c257
            refine x_iconst (v := nI 0) dX5_does_264 (by decide) ?_
            refine x_iret dX5_does_265 rfl (by first | rfl | assumption) ?_
            first
              | (exact hq _ f254 (by rw [hD]; exact (if_pos (by simp [doesP]; exact ⟨c238, p254.1, p254.2⟩)).symm) (by rw [hD]; exact v254) w254
                 done)
              | (exact hq _ f254 (by rw [hD]; exact (if_neg (by simp [doesP]; intro _ q1 q2; exact p254 ⟨q1, q2⟩)).symm) (by rw [hD]; exact v254) w254
                 done)
              | exact hq _ (gI C) (by rw [hD]; exact (if_neg (by simp [doesP]; omega)).symm) (by rw [hD]; exact hV) (fun _ _ => rfl)
          · have p254 := (ite01 hr254).2 c257
            refine x_iconst (v := nI 1) dX5_does_260 (by decide) ?_
            refine x_goto (tgt := 265) dX5_does_261 (by decide) ?_
            refine x_iret dX5_does_265 rfl (by first | rfl | assumption) ?_
            first
              | (exact hq _ f254 (by rw [hD]; exact (if_pos (by simp [doesP]; exact ⟨c238, p254.1, p254.2⟩)).symm) (by rw [hD]; exact v254) w254
                 done)
              | (exact hq _ f254 (by rw [hD]; exact (if_neg (by simp [doesP]; intro _ q1 q2; exact p254 ⟨q1, q2⟩)).symm) (by rw [hD]; exact v254) w254
                 done)
              | exact hq _ (gI C) (by rw [hD]; exact (if_neg (by simp [doesP]; omega)).symm) (by rw [hD]; exact hV) (fun _ _ => rfl)
    · have hD : does g τ = doesP 9 a d t τ := by unfold does; rw [hw, ha, hd, ht]
      refine x_tableIn (off := 226) (tgt := 266) dX5_does_40 (by decide +kernel) (by decide +kernel) (by decide +kernel) (by decide) ?_
      refine x_iload dX5_does_266 rfl ?_
      refine x_if_eq (tgt := 287) dX5_does_268 (by decide) (fun c268 => ?_) (fun c268 => ?_)
      · refine x_iconst (v := nI 0) dX5_does_287 (by decide) ?_
        refine x_iret dX5_does_288 rfl (by first | rfl | assumption) ?_
        refine hq _ (gI C) (by rw [hD]; first | exact (if_pos (by simp [doesP]; omega)).symm | exact (if_neg (by simp [doesP]; omega)).symm) (by rw [hD]; exact hV) (fun _ _ => rfl)
      · exact absurd rfl c268
  · simp (disch := omega) only [nI_leI] at c29
    refine x_iconst (v := nI 1) dX5_does_32 (by decide) ?_
    refine x_goto (tgt := 37) dX5_does_33 (by decide) ?_
    refine x_istore dX5_does_37 (by decide) ?_
    refine x_iload_n dX5_does_39 rfl ?_
    rcases (show w = 0 ∨ w = 1 ∨ w = 2 ∨ w = 3 ∨ w = 4 ∨ w = 5 ∨ w = 6 ∨ w = 7 ∨ w = 8 ∨ w = 9 by omega) with rfl | rfl | rfl | rfl | rfl | rfl | rfl | rfl | rfl | rfl
    · have hD : does g τ = doesP 0 a d t τ := by unfold does; rw [hw, ha, hd, ht]
      refine x_tableOut (tgt := 289) dX5_does_40 (by decide +kernel) (by decide) ?_
      refine x_iconst (v := nI 0) dX5_does_289 (by decide) ?_
      refine x_iret dX5_does_290 rfl (by first | rfl | assumption) ?_
      exact hq _ (gI C) (by rw [hD]; rfl) (by rw [hD]; exact hV) (fun _ _ => rfl)
    · have hD : does g τ = doesP 1 a d t τ := by unfold does; rw [hw, ha, hd, ht]
      refine x_tableIn (off := 52) (tgt := 92) dX5_does_40 (by decide +kernel) (by decide +kernel) (by decide +kernel) (by decide) ?_
      refine x_iload dX5_does_92 rfl ?_
      refine x_if_eq (tgt := 110) dX5_does_94 (by decide) (fun c94 => ?_) (fun c94 => ?_)
      · exact absurd c94 (by decide)
      · refine x_aload_n dX5_does_97 rfl ?_
        refine x_iload dX5_does_98 rfl ?_
        refine x_callV (As := [_]) 7 hO dX5_does_100 o_X5_runs v_X5_runs l_X5_283 ⟨by decide, by decide⟩ (by first | (simp only [gK_wI]; assumption) | assumption) ⟨by decide, by decide⟩ rfl ⟨by decide, by decide⟩ rfl rfl (Nat.le_of_ble_eq_true rfl) (r_runs (d := d) (t := t) hO hM hV hk hT (by omega) (fun r100 f100 hr100 v100 w100 => ?_))
        dsimp only [Option.toList, List.cons_append, List.nil_append]
        refine x_if_eq (tgt := 110) dX5_does_103 (by decide) (fun c103 => ?_) (fun c103 => ?_)
        · have p100 := (ite01 hr100).1 c103
          refine x_iconst (v := nI 0) dX5_does_110 (by decide) ?_
          refine x_iret dX5_does_111 rfl (by first | rfl | assumption) ?_
          have hta : t = a := by omega
          have hc9 : doesP 1 t d t τ = doesP 1 a d t τ := by
            show (if 1 ≤ t ∧ t ≤ 48 then (true, runN t τ) else (false, τ)) = (if 1 ≤ a ∧ a ≤ 48 then (true, runN a τ) else (false, τ))
            rw [hta]
          rw [hc9] at p100 v100
          first
            | (refine hq _ f100 (by rw [hD]; exact (if_pos p100).symm) (by rw [hD]; exact v100) w100
               done)
            | exact hq _ f100 (by rw [hD]; exact (if_neg p100).symm) (by rw [hD]; exact v100) w100
        · have p100 := (ite01 hr100).2 c103
          refine x_iconst (v := nI 1) dX5_does_106 (by decide) ?_
          refine x_goto (tgt := 111) dX5_does_107 (by decide) ?_
          refine x_iret dX5_does_111 rfl (by first | rfl | assumption) ?_
          have hta : t = a := by omega
          have hc9 : doesP 1 t d t τ = doesP 1 a d t τ := by
            show (if 1 ≤ t ∧ t ≤ 48 then (true, runN t τ) else (false, τ)) = (if 1 ≤ a ∧ a ≤ 48 then (true, runN a τ) else (false, τ))
            rw [hta]
          rw [hc9] at p100 v100
          first
            | (refine hq _ f100 (by rw [hD]; exact (if_pos p100).symm) (by rw [hD]; exact v100) w100
               done)
            | exact hq _ f100 (by rw [hD]; exact (if_neg p100).symm) (by rw [hD]; exact v100) w100
    · have hD : does g τ = doesP 2 a d t τ := by unfold does; rw [hw, ha, hd, ht]
      refine x_tableIn (off := 72) (tgt := 112) dX5_does_40 (by decide +kernel) (by decide +kernel) (by decide +kernel) (by decide) ?_
      refine x_aload_n dX5_does_112 rfl ?_
      refine x_iload_n dX5_does_113 rfl ?_
      refine x_iload dX5_does_114 rfl ?_
      refine x_callV (As := [_, _]) 7 hO dX5_does_116 o_X5_renews v_X5_renews l_X5_286 ⟨by decide, by decide⟩ (by first | (simp only [gK_wI]; assumption) | assumption) ⟨by decide, by decide⟩ rfl ⟨by decide, by decide⟩ rfl rfl (Nat.le_of_ble_eq_true rfl) (r_renews (a := a) hO hM hV hk (by omega) (by omega) (fun r116 f116 hr116 v116 w116 => ?_))
      dsimp only [Option.toList, List.cons_append, List.nil_append]
      refine x_iret dX5_does_119 rfl (nrb hr116) ?_
      exact hq _ f116 (by rw [hD]; exact hr116) (by rw [hD]; exact v116) w116
    · have hD : does g τ = doesP 3 a d t τ := by unfold does; rw [hw, ha, hd, ht]
      refine x_tableIn (off := 80) (tgt := 120) dX5_does_40 (by decide +kernel) (by decide +kernel) (by decide +kernel) (by decide) ?_
      refine x_aload_n dX5_does_120 rfl ?_
      refine x_iload_n dX5_does_121 rfl ?_
      refine x_iload dX5_does_122 rfl ?_
      refine x_callV (As := [_, _]) 7 hO dX5_does_124 o_X5_sets v_X5_sets l_X5_289 ⟨by decide, by decide⟩ (by first | (simp only [gK_wI]; assumption) | assumption) ⟨by decide, by decide⟩ rfl ⟨by decide, by decide⟩ rfl rfl (Nat.le_of_ble_eq_true rfl) (r_sets (a := a) hO hM hV hk (by omega) (by omega) (fun r124 f124 hr124 v124 w124 => ?_))
      dsimp only [Option.toList, List.cons_append, List.nil_append]
      refine x_iret dX5_does_127 rfl (nrb hr124) ?_
      exact hq _ f124 (by rw [hD]; exact hr124) (by rw [hD]; exact v124) w124
    · have hD : does g τ = doesP 4 a d t τ := by unfold does; rw [hw, ha, hd, ht]
      refine x_tableIn (off := 88) (tgt := 128) dX5_does_40 (by decide +kernel) (by decide +kernel) (by decide +kernel) (by decide) ?_
      refine x_iload dX5_does_128 rfl ?_
      refine x_if_eq (tgt := 146) dX5_does_130 (by decide) (fun c130 => ?_) (fun c130 => ?_)
      · exact absurd c130 (by decide)
      · refine x_aload_n dX5_does_133 rfl ?_
        refine x_iload dX5_does_134 rfl ?_
        refine x_callV (As := [_]) 7 hO dX5_does_136 o_X5_plugs v_X5_plugs l_X5_292 ⟨by decide, by decide⟩ (by first | (simp only [gK_wI]; assumption) | assumption) ⟨by decide, by decide⟩ rfl ⟨by decide, by decide⟩ rfl rfl (Nat.le_of_ble_eq_true rfl) (r_plugs (d := d) (t := t) hO hM hV hk (by omega) (fun r136 f136 hr136 v136 w136 => ?_))
        dsimp only [Option.toList, List.cons_append, List.nil_append]
        refine x_if_eq (tgt := 146) dX5_does_139 (by decide) (fun c139 => ?_) (fun c139 => ?_)
        · have p136 := (ite01 hr136).1 c139
          refine x_iconst (v := nI 0) dX5_does_146 (by decide) ?_
          refine x_iret dX5_does_147 rfl (by first | rfl | assumption) ?_
          have hta : t = a := by omega
          have hc9 : doesP 4 t d t τ = doesP 4 a d t τ := by
            show (if 1 ≤ t ∧ t ≤ 50 ∧ τ 2 < 5 then (true, addC τ t) else (false, τ)) = (if 1 ≤ a ∧ a ≤ 50 ∧ τ 2 < 5 then (true, addC τ a) else (false, τ))
            rw [hta]
          rw [hc9] at p136 v136
          first
            | (refine hq _ f136 (by rw [hD]; exact (if_pos p136).symm) (by rw [hD]; exact v136) w136
               done)
            | exact hq _ f136 (by rw [hD]; exact (if_neg p136).symm) (by rw [hD]; exact v136) w136
        · have p136 := (ite01 hr136).2 c139
          refine x_iconst (v := nI 1) dX5_does_142 (by decide) ?_
          refine x_goto (tgt := 147) dX5_does_143 (by decide) ?_
          refine x_iret dX5_does_147 rfl (by first | rfl | assumption) ?_
          have hta : t = a := by omega
          have hc9 : doesP 4 t d t τ = doesP 4 a d t τ := by
            show (if 1 ≤ t ∧ t ≤ 50 ∧ τ 2 < 5 then (true, addC τ t) else (false, τ)) = (if 1 ≤ a ∧ a ≤ 50 ∧ τ 2 < 5 then (true, addC τ a) else (false, τ))
            rw [hta]
          rw [hc9] at p136 v136
          first
            | (refine hq _ f136 (by rw [hD]; exact (if_pos p136).symm) (by rw [hD]; exact v136) w136
               done)
            | exact hq _ f136 (by rw [hD]; exact (if_neg p136).symm) (by rw [hD]; exact v136) w136
    · have hD : does g τ = doesP 5 a d t τ := by unfold does; rw [hw, ha, hd, ht]
      refine x_tableIn (off := 108) (tgt := 148) dX5_does_40 (by decide +kernel) (by decide +kernel) (by decide +kernel) (by decide) ?_
      refine x_aload_n dX5_does_148 rfl ?_
      refine x_iload_n dX5_does_149 rfl ?_
      refine x_callV (As := [_]) 7 hO dX5_does_150 o_X5_isThere v_X5_isThere l_X5_280 ⟨by decide, by decide⟩ (by first | (simp only [gK_wI]; assumption) | assumption) ⟨by decide, by decide⟩ rfl ⟨by decide, by decide⟩ rfl rfl (Nat.le_of_ble_eq_true rfl) (r_isThere hO hM hV t1 (by omega) (fun r150 hr150 => ?_))
      dsimp only [Option.toList, List.cons_append, List.nil_append]
      refine x_if_eq (tgt := 175) dX5_does_153 (by decide) (fun c153 => ?_) (fun c153 => ?_)
      · have p150 := (ite01 hr150).1 c153
        refine x_iconst (v := nI 0) dX5_does_175 (by decide) ?_
        refine x_iret dX5_does_176 rfl (by first | rfl | assumption) ?_
        refine hq _ (gI C) (by rw [hD]; first | exact (if_pos (by simp [doesP]; omega)).symm | exact (if_neg (by simp [doesP]; omega)).symm) (by rw [hD]; exact hV) (fun _ _ => rfl)
      · have p150 := (ite01 hr150).2 c153
        obtain ⟨b0, b0', b1, b2, b2', b3, b4, b34, b6⟩ := hW.2.2.2.2.2.2.2.2.2.1 d p150
        refine x_aload_n dX5_does_156 rfl ?_
        refine x_get 7 hO dX5_does_157 f_X5_22 (by first | (simp only [gK_wI]; assumption) | assumption) ⟨by decide, by decide⟩ (v := .ref (m + 5)) (congrArg va_rf g9) ?_
        refine x_iload_n dX5_does_160 rfl ?_
        refine x_iconst (v := nI 1) dX5_does_161 (by decide) ?_
        refine x_callS (As := [_, _]) hO dX5_does_162 o_X5_busAt s_X5_busAt l_X5_67 ⟨by decide, by decide⟩ ⟨by decide, by decide⟩ rfl rfl (Nat.le_of_ble_eq_true rfl) (r_busAt hO ?_)
        dsimp only [Option.toList, List.cons_append, List.nil_append]
        refine x_row _ hO dX5_does_165 k5 hV rfl (by simp only [bi]; omega) ?_
        refine x_iload dX5_does_166 rfl ?_
        refine x_icmp_lt (tgt := 175) dX5_does_168 (by decide) (fun c168 => ?_) (fun c168 => ?_)
        · simp (disch := omega) only [nI_ltI] at c168
          refine x_iconst (v := nI 0) dX5_does_175 (by decide) ?_
          refine x_iret dX5_does_176 rfl (by first | rfl | assumption) ?_
          refine hq _ (gI C) (by rw [hD]; first | exact (if_pos (by simp [doesP]; omega)).symm | exact (if_neg (by simp [doesP]; omega)).symm) (by rw [hD]; exact hV) (fun _ _ => rfl)
        · simp (disch := omega) only [nI_ltI] at c168
          refine x_iconst (v := nI 1) dX5_does_171 (by decide) ?_
          refine x_goto (tgt := 176) dX5_does_172 (by decide) ?_
          refine x_iret dX5_does_176 rfl (by first | rfl | assumption) ?_
          refine hq _ (gI C) (by rw [hD]; first | exact (if_pos (by simp [doesP]; omega)).symm | exact (if_neg (by simp [doesP]; omega)).symm) (by rw [hD]; exact hV) (fun _ _ => rfl)
    · have hD : does g τ = doesP 6 a d t τ := by unfold does; rw [hw, ha, hd, ht]
      refine x_tableIn (off := 137) (tgt := 177) dX5_does_40 (by decide +kernel) (by decide +kernel) (by decide +kernel) (by decide) ?_
      refine x_iload dX5_does_177 rfl ?_
      refine x_if_ne (tgt := 209) dX5_does_179 (by decide) (fun c179 => ?_) (fun c179 => ?_)
      · simp (disch := omega) only [nI_z] at c179
        refine x_iconst (v := nI 0) dX5_does_209 (by decide) ?_
        refine x_iret dX5_does_210 rfl (by first | rfl | assumption) ?_
        refine hq _ (gI C) (by rw [hD]; first | exact (if_pos (by simp [doesP]; omega)).symm | exact (if_neg (by simp [doesP]; omega)).symm) (by rw [hD]; exact hV) (fun _ _ => rfl)
      · simp (disch := omega) only [nI_z] at c179
        refine x_aload_n dX5_does_182 rfl ?_
        refine x_iload_n dX5_does_183 rfl ?_
        refine x_callV (As := [_]) 7 hO dX5_does_184 o_X5_isThere v_X5_isThere l_X5_280 ⟨by decide, by decide⟩ (by first | (simp only [gK_wI]; assumption) | assumption) ⟨by decide, by decide⟩ rfl ⟨by decide, by decide⟩ rfl rfl (Nat.le_of_ble_eq_true rfl) (r_isThere hO hM hV t1 (by omega) (fun r184 hr184 => ?_))
        dsimp only [Option.toList, List.cons_append, List.nil_append]
        refine x_if_eq (tgt := 209) dX5_does_187 (by decide) (fun c187 => ?_) (fun c187 => ?_)
        · have p184 := (ite01 hr184).1 c187
          refine x_iconst (v := nI 0) dX5_does_209 (by decide) ?_
          refine x_iret dX5_does_210 rfl (by first | rfl | assumption) ?_
          refine hq _ (gI C) (by rw [hD]; first | exact (if_pos (by simp [doesP]; omega)).symm | exact (if_neg (by simp [doesP]; omega)).symm) (by rw [hD]; exact hV) (fun _ _ => rfl)
        · have p184 := (ite01 hr184).2 c187
          obtain ⟨b0, b0', b1, b2, b2', b3, b4, b34, b6⟩ := hW.2.2.2.2.2.2.2.2.2.1 d p184
          refine x_aload_n dX5_does_190 rfl ?_
          refine x_get 7 hO dX5_does_191 f_X5_22 (by first | (simp only [gK_wI]; assumption) | assumption) ⟨by decide, by decide⟩ (v := .ref (m + 5)) (congrArg va_rf g9) ?_
          refine x_iload_n dX5_does_194 rfl ?_
          refine x_bipush (v := nI 6) dX5_does_195 (by decide) ?_
          refine x_callS (As := [_, _]) hO dX5_does_197 o_X5_busAt s_X5_busAt l_X5_67 ⟨by decide, by decide⟩ ⟨by decide, by decide⟩ rfl rfl (Nat.le_of_ble_eq_true rfl) (r_busAt hO ?_)
          dsimp only [Option.toList, List.cons_append, List.nil_append]
          refine x_row _ hO dX5_does_200 k5 hV rfl (by simp only [bi]; omega) ?_
          refine x_iconst (v := nI 1) dX5_does_201 (by decide) ?_
          refine x_icmp_ne (tgt := 209) dX5_does_202 (by decide) (fun c202 => ?_) (fun c202 => ?_)
          · simp (disch := omega) only [nI_eq] at c202
            refine x_iconst (v := nI 0) dX5_does_209 (by decide) ?_
            refine x_iret dX5_does_210 rfl (by first | rfl | assumption) ?_
            refine hq _ (gI C) (by rw [hD]; first | exact (if_pos (by simp [doesP]; omega)).symm | exact (if_neg (by simp [doesP]; omega)).symm) (by rw [hD]; exact hV) (fun _ _ => rfl)
          · simp (disch := omega) only [nI_eq] at c202
            refine x_iconst (v := nI 1) dX5_does_205 (by decide) ?_
            refine x_goto (tgt := 210) dX5_does_206 (by decide) ?_
            refine x_iret dX5_does_210 rfl (by first | rfl | assumption) ?_
            refine hq _ (gI C) (by rw [hD]; first | exact (if_pos (by simp [doesP]; omega)).symm | exact (if_neg (by simp [doesP]; omega)).symm) (by rw [hD]; exact hV) (fun _ _ => rfl)
    · have hD : does g τ = doesP 7 a d t τ := by unfold does; rw [hw, ha, hd, ht]
      refine x_tableIn (off := 171) (tgt := 211) dX5_does_40 (by decide +kernel) (by decide +kernel) (by decide +kernel) (by decide) ?_
      refine x_iload dX5_does_211 rfl ?_
      refine x_if_eq (tgt := 231) dX5_does_213 (by decide) (fun c213 => ?_) (fun c213 => ?_)
      · exact absurd c213 (by decide)
      · refine x_aload_n dX5_does_216 rfl ?_
        refine x_get 7 hO dX5_does_217 f_X5_22 (by first | (simp only [gK_wI]; assumption) | assumption) ⟨by decide, by decide⟩ (v := .ref (m + 5)) (congrArg va_rf g9) ?_
        refine x_iconst (v := nI 5) dX5_does_220 (by decide) ?_
        refine x_row _ hO dX5_does_221 k5 hV rfl (by omega) ?_
        refine x_iload dX5_does_222 rfl ?_
        refine x_icmp_gt (tgt := 231) dX5_does_224 (by decide) (fun c224 => ?_) (fun c224 => ?_)
        · simp (disch := omega) only [nI_ltI] at c224
          refine x_iconst (v := nI 0) dX5_does_231 (by decide) ?_
          refine x_iret dX5_does_232 rfl (by first | rfl | assumption) ?_
          refine hq _ (gI C) (by rw [hD]; first | exact (if_pos (by simp [doesP]; omega)).symm | exact (if_neg (by simp [doesP]; omega)).symm) (by rw [hD]; exact hV) (fun _ _ => rfl)
        · simp (disch := omega) only [nI_ltI] at c224
          refine x_iconst (v := nI 1) dX5_does_227 (by decide) ?_
          refine x_goto (tgt := 232) dX5_does_228 (by decide) ?_
          refine x_iret dX5_does_232 rfl (by first | rfl | assumption) ?_
          refine hq _ (gI C) (by rw [hD]; first | exact (if_pos (by simp [doesP]; omega)).symm | exact (if_neg (by simp [doesP]; omega)).symm) (by rw [hD]; exact hV) (fun _ _ => rfl)
    · have hD : does g τ = doesP 8 a d t τ := by unfold does; rw [hw, ha, hd, ht]
      refine x_tableIn (off := 193) (tgt := 233) dX5_does_40 (by decide +kernel) (by decide +kernel) (by decide +kernel) (by decide) ?_
      refine x_iload dX5_does_233 rfl ?_
      refine x_bipush (v := nI 100) dX5_does_235 (by decide) ?_
      refine x_irem dX5_does_237 (by decide) ?_
      rw [pk_rem (by omega) (by decide) (by decide)]
      refine x_if_ne (tgt := 264) dX5_does_238 (by decide) (fun c238 => ?_) (fun c238 => ?_)
      · simp (disch := omega) only [nI_z] at c238
        refine x_iconst (v := nI 0) dX5_does_264 (by decide) ?_
        refine x_iret dX5_does_265 rfl (by first | rfl | assumption) ?_
        first
          | (exact hq _ f254 (by rw [hD]; exact (if_pos (by simp [doesP]; exact ⟨c238, p254.1, p254.2⟩)).symm) (by rw [hD]; exact v254) w254
             done)
          | (exact hq _ f254 (by rw [hD]; exact (if_neg (by simp [doesP]; intro _ q1 q2; exact p254 ⟨q1, q2⟩)).symm) (by rw [hD]; exact v254) w254
             done)
          | exact hq _ (gI C) (by rw [hD]; exact (if_neg (by simp [doesP]; omega)).symm) (by rw [hD]; exact hV) (fun _ _ => rfl)
      · simp (disch := omega) only [nI_z] at c238
        refine x_iload_n dX5_does_241 rfl ?_
        refine x_bipush (v := nI 8) dX5_does_242 (by decide) ?_
        refine x_icmp_ge (tgt := 264) dX5_does_244 (by decide) (fun c244 => ?_) (fun c244 => ?_)
        · simp (disch := omega) only [nI_leI] at c244
          refine x_iconst (v := nI 0) dX5_does_264 (by decide) ?_
          refine x_iret dX5_does_265 rfl (by first | rfl | assumption) ?_
          first
            | (exact hq _ f254 (by rw [hD]; exact (if_pos (by simp [doesP]; exact ⟨c238, p254.1, p254.2⟩)).symm) (by rw [hD]; exact v254) w254
               done)
            | (exact hq _ f254 (by rw [hD]; exact (if_neg (by simp [doesP]; intro _ q1 q2; exact p254 ⟨q1, q2⟩)).symm) (by rw [hD]; exact v254) w254
               done)
            | exact hq _ (gI C) (by rw [hD]; exact (if_neg (by simp [doesP]; omega)).symm) (by rw [hD]; exact hV) (fun _ _ => rfl)
        · simp (disch := omega) only [nI_leI] at c244
          refine x_aload_n dX5_does_247 rfl ?_
          refine x_iload_n dX5_does_248 rfl ?_
          refine x_iload dX5_does_249 rfl ?_
          refine x_bipush (v := nI 100) dX5_does_251 (by decide) ?_
          refine x_idiv dX5_does_253 (by decide) ?_
          rw [pk_div (by omega) (by decide) (by decide)]
          refine x_callV (As := [_, _]) 7 hO dX5_does_254 o_X5_wouldBeAt v_X5_wouldBeAt l_X5_295 ⟨by decide, by decide⟩ (by first | (simp only [gK_wI]; assumption) | assumption) ⟨by decide, by decide⟩ rfl ⟨by decide, by decide⟩ rfl rfl (Nat.le_of_ble_eq_true rfl) (r_wouldBeAt hO hM hV hk hT (by omega) (by omega) (fun r254 f254 hr254 v254 w254 => ?_))
          dsimp only [Option.toList, List.cons_append, List.nil_append]
          refine x_if_eq (tgt := 264) dX5_does_257 (by decide) (fun c257 => ?_) (fun c257 => ?_)
          · have p254 := (ite01 hr254).1 c257
            refine x_iconst (v := nI 0) dX5_does_264 (by decide) ?_
            refine x_iret dX5_does_265 rfl (by first | rfl | assumption) ?_
            first
              | (exact hq _ f254 (by rw [hD]; exact (if_pos (by simp [doesP]; exact ⟨c238, p254.1, p254.2⟩)).symm) (by rw [hD]; exact v254) w254
                 done)
              | (exact hq _ f254 (by rw [hD]; exact (if_neg (by simp [doesP]; intro _ q1 q2; exact p254 ⟨q1, q2⟩)).symm) (by rw [hD]; exact v254) w254
                 done)
              | exact hq _ (gI C) (by rw [hD]; exact (if_neg (by simp [doesP]; omega)).symm) (by rw [hD]; exact hV) (fun _ _ => rfl)
          · have p254 := (ite01 hr254).2 c257
            refine x_iconst (v := nI 1) dX5_does_260 (by decide) ?_
            refine x_goto (tgt := 265) dX5_does_261 (by decide) ?_
            refine x_iret dX5_does_265 rfl (by first | rfl | assumption) ?_
            first
              | (exact hq _ f254 (by rw [hD]; exact (if_pos (by simp [doesP]; exact ⟨c238, p254.1, p254.2⟩)).symm) (by rw [hD]; exact v254) w254
                 done)
              | (exact hq _ f254 (by rw [hD]; exact (if_neg (by simp [doesP]; intro _ q1 q2; exact p254 ⟨q1, q2⟩)).symm) (by rw [hD]; exact v254) w254
                 done)
              | exact hq _ (gI C) (by rw [hD]; exact (if_neg (by simp [doesP]; omega)).symm) (by rw [hD]; exact hV) (fun _ _ => rfl)
    · have hD : does g τ = doesP 9 a d t τ := by unfold does; rw [hw, ha, hd, ht]
      refine x_tableIn (off := 226) (tgt := 266) dX5_does_40 (by decide +kernel) (by decide +kernel) (by decide +kernel) (by decide) ?_
      refine x_iload dX5_does_266 rfl ?_
      refine x_if_eq (tgt := 287) dX5_does_268 (by decide) (fun c268 => ?_) (fun c268 => ?_)
      · exact absurd c268 (by decide)
      · refine x_aload_n dX5_does_271 rfl ?_
        refine x_get 7 hO dX5_does_272 f_X5_22 (by first | (simp only [gK_wI]; assumption) | assumption) ⟨by decide, by decide⟩ (v := .ref (m + 5)) (congrArg va_rf g9) ?_
        refine x_bipush (v := nI 6) dX5_does_275 (by decide) ?_
        refine x_row _ hO dX5_does_277 k5 hV rfl (by omega) ?_
        refine x_iload dX5_does_278 rfl ?_
        refine x_icmp_lt (tgt := 287) dX5_does_280 (by decide) (fun c280 => ?_) (fun c280 => ?_)
        · simp (disch := omega) only [nI_ltI] at c280
          refine x_iconst (v := nI 0) dX5_does_287 (by decide) ?_
          refine x_iret dX5_does_288 rfl (by first | rfl | assumption) ?_
          refine hq _ (gI C) (by rw [hD]; first | exact (if_pos (by simp [doesP]; omega)).symm | exact (if_neg (by simp [doesP]; omega)).symm) (by rw [hD]; exact hV) (fun _ _ => rfl)
        · simp (disch := omega) only [nI_ltI] at c280
          refine x_iconst (v := nI 1) dX5_does_283 (by decide) ?_
          refine x_goto (tgt := 288) dX5_does_284 (by decide) ?_
          refine x_iret dX5_does_288 rfl (by first | rfl | assumption) ?_
          refine hq _ (gI C) (by rw [hD]; first | exact (if_pos (by simp [doesP]; omega)).symm | exact (if_neg (by simp [doesP]; omega)).symm) (by rw [hD]; exact hV) (fun _ _ => rfl)

