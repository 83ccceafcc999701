/-! a depot: the chargers *)-/
theorem getD_in {l : List Nat} {k : Nat} (h : k < l.length) : l.getD k 0 ∈ l := by
  rw [List.getD_eq_getElem?_getD, List.getElem?_eq_getElem h]
  exact List.getElem_mem h
theorem getD_al {l m : List Nat} {k : Nat} (h : k < l.length) : (l ++ m).getD k 0 = l.getD k 0 := by
  rw [List.getD_eq_getElem?_getD, List.getD_eq_getElem?_getD, List.getElem?_append_left h]
theorem getD_ar {l m : List Nat} {k : Nat} (h : l.length ≤ k) : (l ++ m).getD k 0 = m.getD (k - l.length) 0 := by
  rw [List.getD_eq_getElem?_getD, List.getD_eq_getElem?_getD, List.getElem?_append_right h]

theorem s_busAtCharger {G : GT} {C : AH} {Q : QT} {X : XT} {d : Nat} {ρ : Rw} {s : LT} {c : Nat} (hO : GO G) (hS : SkD C d) (hV : VaD (gI C) d ρ) (hW : Wf ρ) (hP : PlD (gI C) d ρ s) (hpl : ∀ b, b < ρ 1 → ∀ c, s.2.2.2.1 b = some c → c < 5) (hc : c < 5) (h1 : ∀ j, j < ρ 1 → s.2.2.2.1 j = some c → (∀ i, i < j → s.2.2.2.1 i ≠ some c) → Q (some (.int (nI j))) C) (h0 : (∀ j, j < ρ 1 → s.2.2.2.1 j ≠ some c) → Q (some (.int (-1))) C) : Mt G M_X1_busAtCharger [.ref d, .int (nI c)] C Q X := by
  refine Mt_of (by decide) (Nat.le_of_ble_eq_true rfl) ?_
  obtain ⟨s0, s1, s2, s3, v4, v5, v6, v7, v8, v9, v10⟩ := SkD_f hS hV
  obtain ⟨hK, -, -, -, -, k1, n1, k2, n2, k3, n3, k4, n4, hbus⟩ := id hS
  obtain ⟨w1, w2, w7, w8, w9, w10, w11, w11', w12, wB, wP⟩ := id hW
  have enc_eq : ∀ b, b < ρ 1 → (enc (s.2.2.2.1 b) = nI c ↔ s.2.2.2.1 b = some c) := by
    intro b hb
    cases e : s.2.2.2.1 b with
    | none => exact ⟨fun q => absurd q.symm (nI_m1 (by omega)), fun q => nomatch q⟩
    | some c9 =>
      have := hpl b hb c9 e
      constructor
      · intro q
        rw [(nI_eq (by omega) (by omega)).mp (show nI c9 = nI c from q)]
      · intro q
        cases q
        rfl
  have loop : ∀ (m b : Nat), ρ 1 - b = m → b ≤ ρ 1 → (∀ i, i < b → s.2.2.2.1 i ≠ some c) → Ex G M_X1_busAtCharger Q X (mC M_X1_busAtCharger) (mS M_X1_busAtCharger) 2 [(0, .ref d), (1, .int (nI c)), (2, .int (nI b))] [] C := by
    intro m
    induction m using Nat.strongRecOn with
    | _ m ih =>
    intro b hm hb9 hno
    refine x_iload_n dX1_busAtCharger_2 rfl ?_
    refine x_aload_n dX1_busAtCharger_3 rfl ?_
    refine x_get 3 hO dX1_busAtCharger_4 f_X1_37 (by first | (simp only [gK_wI]; assumption) | assumption) ⟨by decide, by decide⟩ (v := .int (nI (ρ 1))) v4 ?_
    refine x_icmp_ge (tgt := 31) dX1_busAtCharger_7 (by decide) (fun c7 => ?_) (fun c7 => ?_)
    · skip
      refine x_iconst (v := (-1)) dX1_busAtCharger_31 (by decide) ?_
      refine x_iret dX1_busAtCharger_32 rfl rfl ?_
      simp (disch := omega) only [nI_leI] at c7
      have : b = ρ 1 := by omega
      subst this
      exact h0 hno
    · simp (disch := omega) only [nI_leI] at c7
      have hb8 : b < ρ 1 := by omega
      have kb : gK C (d + 5 + b) = 2 := (hbus b (by omega)).2
      refine x_aload_n dX1_busAtCharger_10 rfl ?_
      refine x_get 3 hO dX1_busAtCharger_11 f_X1_11 (by first | (simp only [gK_wI]; assumption) | assumption) ⟨by decide, by decide⟩ (v := .ref (d + 1)) s0 ?_
      refine x_iload_n dX1_busAtCharger_14 rfl ?_
      refine x_aald 25 _ _ hO dX1_busAtCharger_15 (by first | (simp only [gK_wI]; assumption) | assumption) (by decide) rfl (by first | (simp only [gN_wI]; assumption) | assumption) (by omega) (by decide) ?_
      rw [show gR C (d + 1) b = some (d + 5 + b) from (hbus b (by omega)).1]
      refine x_get 2 hO dX1_busAtCharger_16 f_X1_180 (by first | (simp only [gK_wI]; assumption) | assumption) ⟨by decide, by decide⟩ (v := .int (enc (s.2.2.2.1 b))) (congrArg Value.int (hP b hb8).2.1) ?_
      refine x_iload_n dX1_busAtCharger_19 rfl ?_
      refine x_icmp_ne (tgt := 25) dX1_busAtCharger_20 (by decide) (fun c20 => ?_) (fun c20 => ?_)
      · skip
        refine x_iinc (v := nI 1) dX1_busAtCharger_25 rfl (by decide) (by decide) ?_
        refine x_goto (tgt := 2) dX1_busAtCharger_28 (by decide) ?_
        simp only [nI_add]
        refine x_ls [(0, .ref d), (1, .int (nI c)), (2, .int (nI (b + 1)))] ⟨rfl, rfl, rfl, trivial⟩ ?_
        refine ih (m - 1) (by omega) (b + 1) (by omega) (by omega) (fun i hi => ?_)
        by_cases e : i = b
        · subst e
          exact fun q => c20 ((enc_eq i hb8).mpr q)
        · exact hno i (by omega)
      · skip
        refine x_iload_n dX1_busAtCharger_23 rfl ?_
        refine x_iret dX1_busAtCharger_24 rfl rfl ?_
        exact h1 b hb8 ((enc_eq b hb8).mp c20) hno
  refine x_iconst (v := nI 0) dX1_busAtCharger_0 (by decide) ?_
  refine x_istore_n dX1_busAtCharger_1 (by decide) ?_
  refine x_ls [(0, .ref d), (1, .int (nI c)), (2, .int (nI 0))] ⟨rfl, rfl, rfl, trivial⟩ ?_
  exact loop _ 0 rfl (Nat.zero_le _) (fun i hi => absurd hi (Nat.not_lt_zero i))

theorem s_placeOf {G : GT} {C : AH} {Q : QT} {X : XT} {d : Nat} {ρ : Rw} {c : Nat} (hO : GO G) (hS : SkD C d) (hV : VaD (gI C) d ρ) (hW : Wf ρ) (hc : c < 100) (h1 : ∀ j, j < ρ 2 → (ordL ρ).getD j 0 = c → (∀ i, i < j → (ordL ρ).getD i 0 ≠ c) → Q (some (.int (nI j))) C) (h0 : (∀ j, j < ρ 2 → (ordL ρ).getD j 0 ≠ c) → Q (some (.int (-1))) C) : Mt G M_X1_placeOf [.ref d, .int (nI c)] C Q X := by
  refine Mt_of (by decide) (Nat.le_of_ble_eq_true rfl) ?_
  obtain ⟨s0, s1, s2, s3, v4, v5, v6, v7, v8, v9, v10⟩ := SkD_f hS hV
  obtain ⟨hK, -, -, -, -, k1, n1, k2, n2, k3, n3, k4, n4, hbus⟩ := id hS
  obtain ⟨w1, w2, w7, w8, w9, w10, w11, w11', w12, wB, wP⟩ := id hW
  have vp := hV.2.2.2.2.2.2.2.2.2
  have loop : ∀ (m b : Nat), ρ 2 - b = m → b ≤ ρ 2 → (∀ i, i < b → (ordL ρ).getD i 0 ≠ c) → Ex G M_X1_placeOf Q X (mC M_X1_placeOf) (mS M_X1_placeOf) 2 [(0, .ref d), (1, .int (nI c)), (2, .int (nI b))] [] C := by
    intro m
    induction m using Nat.strongRecOn with
    | _ m ih =>
    intro b hm hb9 hno
    refine x_iload_n dX1_placeOf_2 rfl ?_
    refine x_aload_n dX1_placeOf_3 rfl ?_
    refine x_get 3 hO dX1_placeOf_4 f_X1_41 (by first | (simp only [gK_wI]; assumption) | assumption) ⟨by decide, by decide⟩ (v := .int (nI (ρ 2))) v5 ?_
    refine x_icmp_ge (tgt := 28) dX1_placeOf_7 (by decide) (fun c7 => ?_) (fun c7 => ?_)
    · skip
      refine x_iconst (v := (-1)) dX1_placeOf_28 (by decide) ?_
      refine x_iret dX1_placeOf_29 rfl rfl ?_
      simp (disch := omega) only [nI_leI] at c7
      have : b = ρ 2 := by omega
      subst this
      exact h0 hno
    · simp (disch := omega) only [nI_leI] at c7
      have hb8 : b < ρ 2 := by omega
      have hl := ordL_lt hb8
      refine x_aload_n dX1_placeOf_10 rfl ?_
      refine x_get 3 hO dX1_placeOf_11 f_X1_21 (by first | (simp only [gK_wI]; assumption) | assumption) ⟨by decide, by decide⟩ (v := .ref (d + 3)) s2 ?_
      refine x_iload_n dX1_placeOf_14 rfl ?_
      refine x_iald _ _ hO dX1_placeOf_15 (by first | (simp only [gK_wI]; assumption) | assumption) rfl (by first | (simp only [gN_wI]; assumption) | assumption) (by omega) (by decide) ?_
      rw [(vp b hb8).2]
      refine x_iload_n dX1_placeOf_16 rfl ?_
      refine x_icmp_ne (tgt := 22) dX1_placeOf_17 (by decide) (fun c17 => ?_) (fun c17 => ?_)
      · skip
        refine x_iinc (v := nI 1) dX1_placeOf_22 rfl (by decide) (by decide) ?_
        refine x_goto (tgt := 2) dX1_placeOf_25 (by decide) ?_
        simp only [nI_add]
        refine x_ls [(0, .ref d), (1, .int (nI c)), (2, .int (nI (b + 1)))] ⟨rfl, rfl, rfl, trivial⟩ ?_
        refine ih (m - 1) (by omega) (b + 1) (by omega) (by omega) (fun i hi => ?_)
        by_cases e : i = b
        · subst e
          exact fun q => c17 (congrArg nI q)
        · exact hno i (by omega)
      · skip
        refine x_iload_n dX1_placeOf_20 rfl ?_
        refine x_iret dX1_placeOf_21 rfl rfl ?_
        exact h1 b hb8 ((nI_eq (by omega) (by omega)).mp c17) hno
  refine x_iconst (v := nI 0) dX1_placeOf_0 (by decide) ?_
  refine x_istore_n dX1_placeOf_1 (by decide) ?_
  refine x_ls [(0, .ref d), (1, .int (nI c)), (2, .int (nI 0))] ⟨rfl, rfl, rfl, trivial⟩ ?_
  exact loop _ 0 rfl (Nat.zero_le _) (fun i hi => absurd hi (Nat.not_lt_zero i))

theorem s_hasCharger2 {G : GT} {C : AH} {Q : QT} {X : XT} {d n : Nat} {c : Int32} (hO : GO G) (hS : SkD C d) (v5 : gI C d 5 = nI n) (hq : ∀ r : Int32, r = (if nI 0 ≤ c ∧ c ≤ nI n - nI 1 then 1 else 0) → Q (some (.int r)) C) : Mt G M_X1_hasCharger [.ref d, .int c] C Q X := by
  refine Mt_of (by decide) (Nat.le_of_ble_eq_true rfl) ?_
  have hK := hS.1
  refine x_iload_n dX1_hasCharger_0 rfl ?_
  refine x_iconst (v := nI 0) dX1_hasCharger_1 (by decide) ?_
  refine x_aload_n dX1_hasCharger_2 rfl ?_
  refine x_get 3 hO dX1_hasCharger_3 f_X1_41 (by first | (simp only [gK_wI]; assumption) | assumption) ⟨by decide, by decide⟩ (v := .int (nI n)) (congrArg Value.int v5) ?_
  refine x_iconst (v := nI 1) dX1_hasCharger_6 (by decide) ?_
  refine x_isub dX1_hasCharger_7 ?_
  refine x_callSN (As := [_, _, _]) hO dX1_hasCharger_8 o_X4_isWithin s_X4_isWithin (n_X1_63 hO) ⟨by decide, by decide⟩ ⟨by decide, by decide⟩ rfl rfl (Nat.le_of_ble_eq_true rfl) (s_isWithin hO (fun r8 hr8 => ?_))
  dsimp only [Option.toList, List.cons_append, List.nil_append]
  refine x_iret dX1_hasCharger_11 rfl (by subst hr8; split <;> rfl) ?_
  exact hq _ hr8
theorem s_isFullOfChargers2 {G : GT} {C : AH} {Q : QT} {X : XT} {d n : Nat} (hO : GO G) (hS : SkD C d) (v5 : gI C d 5 = nI n) (hn : n ≤ 5) (hq : ∀ r : Int32, r = (if 5 ≤ n then 1 else 0) → Q (some (.int r)) C) : Mt G M_X1_isFullOfChargers [.ref d] C Q X := by
  refine Mt_of (by decide) (Nat.le_of_ble_eq_true rfl) ?_
  have hK := hS.1
  refine x_aload_n dX1_isFullOfChargers_0 rfl ?_
  refine x_get 3 hO dX1_isFullOfChargers_1 f_X1_41 (by first | (simp only [gK_wI]; assumption) | assumption) ⟨by decide, by decide⟩ (v := .int (nI n)) (congrArg Value.int v5) ?_
  refine x_iconst (v := nI 5) dX1_isFullOfChargers_4 (by decide) ?_
  refine x_icmp_lt (tgt := 12) dX1_isFullOfChargers_5 (by decide) (fun c5 => ?_) (fun c5 => ?_)
  · refine x_iconst (v := nI 0) dX1_isFullOfChargers_12 (by decide) ?_
    refine x_iret dX1_isFullOfChargers_13 rfl (by first | rfl | assumption) ?_
    try simp (disch := omega) only [nI_leI, nI_ltI, nI_eq, nI_z] at *
    exact hq _ (by first | (rw [if_pos (by omega)]; rfl) | (rw [if_neg (by omega)]; rfl))
  · refine x_iconst (v := nI 1) dX1_isFullOfChargers_8 (by decide) ?_
    refine x_goto (tgt := 13) dX1_isFullOfChargers_9 (by decide) ?_
    refine x_iret dX1_isFullOfChargers_13 rfl (by first | rfl | assumption) ?_
    try simp (disch := omega) only [nI_leI, nI_ltI, nI_eq, nI_z] at *
    exact hq _ (by first | (rw [if_pos (by omega)]; rfl) | (rw [if_neg (by omega)]; rfl))
theorem s_powerOf2 {G : GT} {C : AH} {Q : QT} {X : XT} {d n c x : Nat} (hO : GO G) (hS : SkD C d) (v5 : gI C d 5 = nI n) (hn : n ≤ 5) (hc : c < n) (hx : gI C (d + 2) c = nI x) (hq : Q (some (.int (nI x))) C) : Mt G M_X1_powerOf [.ref d, .int (nI c)] C Q X := by
  refine Mt_of (by decide) (Nat.le_of_ble_eq_true rfl) ?_
  have hK := hS.1
  have k2 := hS.2.2.2.2.2.2.2.1
  have n2 := hS.2.2.2.2.2.2.2.2.1
  refine x_aload_n dX1_powerOf_0 rfl ?_
  refine x_iload_n dX1_powerOf_1 rfl ?_
  refine x_callV (As := [_]) 3 hO dX1_powerOf_2 o_X1_hasCharger v_X1_hasCharger l_X1_67 ⟨by decide, by decide⟩ (by first | (simp only [gK_wI]; assumption) | assumption) ⟨by decide, by decide⟩ rfl ⟨by decide, by decide⟩ rfl rfl (Nat.le_of_ble_eq_true rfl) (s_hasCharger2 hO hS v5 (fun r2 hr2 => ?_))
  dsimp only [Option.toList, List.cons_append, List.nil_append]
  refine x_if_eq (tgt := 17) dX1_powerOf_5 (by decide) (fun c5 => ?_) (fun c5 => ?_)
  · exact absurd ((ix_of (by omega)).mpr ⟨c, hc, rfl⟩) ((ite01 hr2).1 c5)
  · have p2 := (ite01 hr2).2 c5
    refine x_aload_n dX1_powerOf_8 rfl ?_
    refine x_get 3 hO dX1_powerOf_9 f_X1_17 (by first | (simp only [gK_wI]; assumption) | assumption) ⟨by decide, by decide⟩ (v := .ref (d + 2)) (congrArg va_rf hS.2.2.1) ?_
    refine x_iload_n dX1_powerOf_12 rfl ?_
    refine x_iald _ _ hO dX1_powerOf_13 (by first | (simp only [gK_wI]; assumption) | assumption) rfl (by first | (simp only [gN_wI]; assumption) | assumption) (by omega) (by decide) ?_
    refine x_goto (tgt := 18) dX1_powerOf_14 (by decide) ?_
    refine x_iret dX1_powerOf_18 rfl rfl ?_
    exact hx ▸ hq

theorem nI_dec {q : Nat} : nI (q + 1) + -1 = nI q := by
  rw [← nI_pred q, Int32.sub_eq_add_neg]
  try rfl
theorem s_putCharger {G : GT} {C : AH} {Q : QT} {X : XT} {d : Nat} {ρ : Rw} {p : Nat} (hO : GO G) (hS : SkD C d) (hV : VaD (gI C) d ρ) (hW : Wf ρ) (hp1 : 1 ≤ p) (hp2 : p ≤ 50) (hq : ρ 2 < 5 → ∀ f : Nat → Nat → Int32, VaD f d (addC ρ p) → (∀ a : Nat, a < d ∨ d + 13 ≤ a → f a = gI C a) → Q (some (.int (nI (ρ 2)))) (wI C f)) (h0 : 5 ≤ ρ 2 → Q (some (.int (-1))) C) : Mt G M_X1_putCharger [.ref d, .int (nI p)] C Q X := by
  refine Mt_of (by decide) (Nat.le_of_ble_eq_true rfl) ?_
  obtain ⟨s0, s1, s2, s3, v4, v5, v6, v7, v8, v9, v10⟩ := SkD_f hS hV
  obtain ⟨hK, -, -, -, -, k1, n1, k2, n2, k3, n3, k4, n4, hbus⟩ := id hS
  obtain ⟨w1, w2, w7, w8, w9, w10, w11, w11', w12, wB, wP⟩ := id hW
  have vp := hV.2.2.2.2.2.2.2.2.2
  have e69 : uN ρ (69 + ρ 2) p (69 + ρ 2) = p := uN_s
  have eo : ∀ c, c < ρ 2 → uN ρ (69 + ρ 2) p (69 + c) = ρ (69 + c) := fun c hc => uN_n (by omega)
  obtain ⟨Al, Bl, a1, a2, a3, a4⟩ := ord_ins (ρ := uN ρ (69 + ρ 2) p) (m := ρ 2) (by rw [e69]; exact hp1) (by rw [e69]; exact hp2)
  rw [e69] at a3 a4
  have hL1 : ordL ρ = Al ++ Bl := by
    rw [← a1, ordM_congr (ρ := ρ) eo]
    rfl
  have hL2 : ordL (addC ρ p) = Al ++ ρ 2 :: Bl := by
    rw [← a2]
    have z : addC ρ p 2 = ρ 2 + 1 := uN_s
    show ordM (addC ρ p) (addC ρ p 2) = _
    rw [z]
    exact ordM_congr fun c hc => uN_n (by omega)
  have hlen : Al.length + Bl.length = ρ 2 := by
    rw [← List.length_append, ← hL1]
    exact ordM_len fun c hc => wP c hc
  have hA : ∀ k, k < Al.length → p ≤ ρ (69 + (ordL ρ).getD k 0) := by
    intro k hk
    have hm := getD_in hk
    rw [hL1, getD_al hk]
    have := a3 _ hm
    rwa [eo _ (ordM_mem (a1 ▸ List.mem_append_left _ hm))] at this
  have hB : ∀ k, Al.length ≤ k → k < ρ 2 → ρ (69 + (ordL ρ).getD k 0) < p := by
    intro k hk hk2
    have hm : Bl.getD (k - Al.length) 0 ∈ Bl := getD_in (by omega)
    rw [hL1, getD_ar hk]
    have := a4 _ hm
    rwa [eo _ (ordM_mem (a1 ▸ List.mem_append_right _ hm))] at this
  have tail : ρ 2 < 5 → ∀ f : Nat → Nat → Int32, (∀ k, k < Al.length → f (d + 3) k = nI ((ordL ρ).getD k 0)) → (∀ k, Al.length < k → k ≤ ρ 2 → f (d + 3) k = nI ((ordL ρ).getD (k - 1) 0)) → (∀ a : Nat, a ≠ d + 3 → f a = gI C a) → Ex G M_X1_putCharger Q X (mC M_X1_putCharger) (mS M_X1_putCharger) 56 [(0, .ref d), (1, .int (nI p)), (2, .int (nI (ρ 2))), (3, .int (nI Al.length))] [] (wI C f) := by
    intro hn5 f hlo hhi hfr
    refine x_aload_n dX1_putCharger_56 rfl ?_
    refine x_get 3 hO dX1_putCharger_57 f_X1_21 (by first | (simp only [gK_wI]; assumption) | assumption) ⟨by decide, by decide⟩ (v := .ref (d + 3)) s2 ?_
    refine x_iload_n dX1_putCharger_60 rfl ?_
    refine x_iload_n dX1_putCharger_61 rfl ?_
    refine x_iast _ _ hO dX1_putCharger_62 (by first | (simp only [gK_wI]; assumption) | assumption) rfl (by first | (simp only [gN_wI]; assumption) | assumption) (by omega) (by decide) ?_
    refine x_aload_n dX1_putCharger_63 rfl ?_
    refine x_get 3 hO dX1_putCharger_64 f_X1_17 (by first | (simp only [gK_wI]; assumption) | assumption) ⟨by decide, by decide⟩ (v := .ref (d + 2)) s1 ?_
    refine x_iload_n dX1_putCharger_67 rfl ?_
    refine x_iload_n dX1_putCharger_68 rfl ?_
    refine x_iast _ _ hO dX1_putCharger_69 (by first | (simp only [gK_wI]; assumption) | assumption) rfl (by first | (simp only [gN_wI]; assumption) | assumption) (by omega) (by decide) ?_
    refine x_aload_n dX1_putCharger_70 rfl ?_
    refine x_iload_n dX1_putCharger_71 rfl ?_
    refine x_iconst (v := nI 1) dX1_putCharger_72 (by decide) ?_
    refine x_iadd dX1_putCharger_73 ?_
    refine x_putI 3 hO dX1_putCharger_74 f_X1_41 (fw_3_5 _) (by first | (simp only [gK_wI]; assumption) | assumption) ⟨by decide, by decide⟩ rfl rfl ?_
    refine x_iload_n dX1_putCharger_77 rfl ?_
    refine x_iret dX1_putCharger_78 rfl rfl ?_
    simp only [wI_wI, gI_wI, nI_add]
    refine hq hn5 _ ?_ ?_
    · obtain ⟨q4, q5, q6, q7, q8, q9, q10, qs, qb, qp⟩ := hV
      have e : ∀ j, j ≠ 2 → j ≠ 69 + ρ 2 → addC ρ p j = ρ j := fun j a b => by unfold addC; rw [uN_n a, uN_n b]
      have e2 : addC ρ p 2 = ρ 2 + 1 := by unfold addC; rw [uN_s]
      have e3 : addC ρ p (69 + ρ 2) = p := by unfold addC; rw [uN_n (by omega), uN_s]
      have fo : ∀ a j, a ≠ d + 3 → f a j = gI C a j := fun a j ha => congrFun (hfr a ha) j
      refine ⟨?_, ?_, ?_, ?_, ?_, ?_, ?_, fun j hj => ?_, fun b hb w hw => ?_, fun c9 hc => ?_⟩
      · rw [e 1 (by omega) (by omega), ← q4, ← fo d 4 (by omega)]; simp [up2, show ¬ (d = d + 2) by omega, show ¬ (d = d + 3) by omega]
      · rw [e2]; simp [up2]
      · rw [e 0 (by omega) (by omega), ← q6, ← fo d 6 (by omega)]; simp [up2, show ¬ (d = d + 2) by omega, show ¬ (d = d + 3) by omega]
      · rw [e 3 (by omega) (by omega), ← q7, ← fo d 7 (by omega)]; simp [up2, show ¬ (d = d + 2) by omega, show ¬ (d = d + 3) by omega]
      · rw [e 4 (by omega) (by omega), ← q8, ← fo d 8 (by omega)]; simp [up2, show ¬ (d = d + 2) by omega, show ¬ (d = d + 3) by omega]
      · rw [e 5 (by omega) (by omega), ← q9, ← fo d 9 (by omega)]; simp [up2, show ¬ (d = d + 2) by omega, show ¬ (d = d + 3) by omega]
      · rw [e 6 (by omega) (by omega), ← q10, ← fo d 10 (by omega)]; simp [up2, show ¬ (d = d + 2) by omega, show ¬ (d = d + 3) by omega]
      · rw [e (7 + j) (by omega) (by omega), ← qs j hj, ← fo (d + 4) j (by omega)]; simp [up2, show ¬ (d + 4 = d) by omega, show ¬ (d + 4 = d + 2) by omega, show ¬ (d + 4 = d + 3) by omega]
      · rw [e 1 (by omega) (by omega)] at hb
        rw [e (bi b w) (by simp only [bi]; omega) (by simp only [bi]; omega), ← qb b hb w hw, ← fo (d + 5 + b) w (by omega)]; simp [up2, show ¬ (d + 5 + b = d) by omega, show ¬ (d + 5 + b = d + 2) by omega, show ¬ (d + 5 + b = d + 3) by omega]
      · rw [e2] at hc
        rw [hL2]
        refine ⟨?_, ?_⟩
        · by_cases ec : c9 = ρ 2
          · subst ec
            rw [e3]; simp [up2]
          · rw [e (69 + c9) (by omega) (by omega), ← (qp c9 (by omega)).1, ← fo (d + 2) c9 (by omega)]
            simp [up2, ec]
        · have hu : ∀ j, up2 (up2 (up2 f (d + 3) Al.length (nI (ρ 2))) (d + 2) (ρ 2) (nI p)) d 5 (nI (ρ 2 + 1)) (d + 3) j = if j = Al.length then nI (ρ 2) else f (d + 3) j := fun j => by simp [up2]
          rw [hu]
          by_cases e1 : c9 = Al.length
          · rw [if_pos e1, e1, getD_ar (Nat.le_refl _), Nat.sub_self]; rfl
          · rw [if_neg e1]
            by_cases e4 : c9 < Al.length
            · rw [getD_al e4, hlo c9 e4, hL1, getD_al e4]
            · rw [getD_ar (by omega), hhi c9 (by omega) (by omega), hL1, getD_ar (by omega)]
              obtain ⟨k, rfl⟩ : ∃ k, c9 = Al.length + k + 1 := ⟨c9 - Al.length - 1, by omega⟩
              rw [show Al.length + k + 1 - 1 - Al.length = k by omega, show Al.length + k + 1 - Al.length = k + 1 by omega]
              rfl
    · intro a ha
      rw [← hfr a (by omega)]
      funext q
      simp [up2, show ¬ (a = d) by omega, show ¬ (a = d + 2) by omega, show ¬ (a = d + 3) by omega]
  have loop : ρ 2 < 5 → ∀ (q : Nat) (f : Nat → Nat → Int32), Al.length ≤ q → q ≤ ρ 2 → (∀ k, k < q → f (d + 3) k = nI ((ordL ρ).getD k 0)) → (∀ k, q < k → k ≤ ρ 2 → f (d + 3) k = nI ((ordL ρ).getD (k - 1) 0)) → (∀ a : Nat, a ≠ d + 3 → f a = gI C a) → Ex G M_X1_putCharger Q X (mC M_X1_putCharger) (mS M_X1_putCharger) 16 [(0, .ref d), (1, .int (nI p)), (2, .int (nI (ρ 2))), (3, .int (nI q))] [] (wI C f) := by
    intro hn5 q
    induction q with
    | zero =>
      intro f hl hq2 hlo hhi hfr
      have hz : Al.length = 0 := by omega
      refine x_iload_n dX1_putCharger_16 rfl ?_
      refine x_if_le (tgt := 56) dX1_putCharger_17 (by decide) (fun c17 => ?_) (fun c17 => ?_)
      · refine x_ls [(0, .ref d), (1, .int (nI p)), (2, .int (nI (ρ 2))), (3, .int (nI Al.length))] ⟨rfl, rfl, rfl, (by rw [hz]; rfl), trivial⟩ ?_
        exact tail hn5 f (fun k hk => hlo k (by omega)) (fun k hk => hhi k (by omega)) hfr
      · exact absurd (show nI 0 ≤ 0 by decide) c17
    | succ q ih =>
      intro f hl hq2 hlo hhi hfr
      have hcl : (ordL ρ).getD q 0 < ρ 2 := ordL_lt (by omega)
      have v5f : gI (wI C f) d 5 = nI (ρ 2) := by
        show f d 5 = _
        rw [hfr d (by omega)]; exact hV.2.1
      have hpx : gI (wI C f) (d + 2) ((ordL ρ).getD q 0) = nI (ρ (69 + (ordL ρ).getD q 0)) := by
        show f (d + 2) _ = _
        rw [hfr (d + 2) (by omega)]; exact (vp _ hcl).1
      have hPw := wP _ hcl
      refine x_iload_n dX1_putCharger_16 rfl ?_
      refine x_if_le (tgt := 56) dX1_putCharger_17 (by decide) (fun c17 => ?_) (fun c17 => ?_)
      · exact absurd c17 (fun e => by rw [← nI_0] at e; simp (disch := omega) only [nI_leI] at e; omega)
      · refine x_aload_n dX1_putCharger_20 rfl ?_
        refine x_aload_n dX1_putCharger_21 rfl ?_
        refine x_get 3 hO dX1_putCharger_22 f_X1_21 (by first | (simp only [gK_wI]; assumption) | assumption) ⟨by decide, by decide⟩ (v := .ref (d + 3)) s2 ?_
        refine x_iload_n dX1_putCharger_25 rfl ?_
        refine x_iconst (v := nI 1) dX1_putCharger_26 (by decide) ?_
        refine x_isub dX1_putCharger_27 ?_
        refine x_iald _ _ hO dX1_putCharger_28 (by first | (simp only [gK_wI]; assumption) | assumption) (nI_pred q) (by first | (simp only [gN_wI]; assumption) | assumption) (by omega) (by decide) ?_
        rw [show gI (wI C f) (d + 3) q = nI ((ordL ρ).getD q 0) from hlo q (by omega)]
        refine x_callV (As := [_]) 3 hO dX1_putCharger_29 o_X1_powerOf v_X1_powerOf l_X1_117 ⟨by decide, by decide⟩ (by first | (simp only [gK_wI]; assumption) | assumption) ⟨by decide, by decide⟩ rfl ⟨by decide, by decide⟩ rfl rfl (Nat.le_of_ble_eq_true rfl) (s_powerOf2 (C := wI C f) hO hS v5f (by omega) hcl hpx ?_)
        dsimp only [Option.toList, List.cons_append, List.nil_append]
        refine x_iload_n dX1_putCharger_32 rfl ?_
        refine x_icmp_ge (tgt := 56) dX1_putCharger_33 (by decide) (fun c33 => ?_) (fun c33 => ?_)
        · simp (disch := omega) only [nI_leI] at c33
          have hz : Al.length = q + 1 := Nat.le_antisymm hl (Nat.not_lt.mp fun h9 => absurd (hB q (by omega) (by omega)) (by omega))
          refine x_ls [(0, .ref d), (1, .int (nI p)), (2, .int (nI (ρ 2))), (3, .int (nI Al.length))] ⟨rfl, rfl, rfl, (by rw [hz]; rfl), trivial⟩ ?_
          exact tail hn5 f (fun k hk => hlo k (by omega)) (fun k hk => hhi k (by omega)) hfr
        · simp (disch := omega) only [nI_leI] at c33
          have hz : Al.length ≤ q := Nat.not_lt.mp fun h9 => absurd (hA q h9) (by omega)
          refine x_aload_n dX1_putCharger_36 rfl ?_
          refine x_get 3 hO dX1_putCharger_37 f_X1_21 (by first | (simp only [gK_wI]; assumption) | assumption) ⟨by decide, by decide⟩ (v := .ref (d + 3)) s2 ?_
          refine x_iload_n dX1_putCharger_40 rfl ?_
          refine x_aload_n dX1_putCharger_41 rfl ?_
          refine x_get 3 hO dX1_putCharger_42 f_X1_21 (by first | (simp only [gK_wI]; assumption) | assumption) ⟨by decide, by decide⟩ (v := .ref (d + 3)) s2 ?_
          refine x_iload_n dX1_putCharger_45 rfl ?_
          refine x_iconst (v := nI 1) dX1_putCharger_46 (by decide) ?_
          refine x_isub dX1_putCharger_47 ?_
          refine x_iald _ _ hO dX1_putCharger_48 (by first | (simp only [gK_wI]; assumption) | assumption) (nI_pred q) (by first | (simp only [gN_wI]; assumption) | assumption) (by omega) (by decide) ?_
          rw [show gI (wI C f) (d + 3) q = nI ((ordL ρ).getD q 0) from hlo q (by omega)]
          refine x_iast _ _ hO dX1_putCharger_49 (by first | (simp only [gK_wI]; assumption) | assumption) rfl (by first | (simp only [gN_wI]; assumption) | assumption) (by omega) (by decide) ?_
          refine x_iinc (v := (-1)) dX1_putCharger_50 rfl (by decide) (by decide) ?_
          refine x_goto (tgt := 16) dX1_putCharger_53 (by decide) ?_
          simp only [wI_wI, gI_wI]
          refine x_ls [(0, .ref d), (1, .int (nI p)), (2, .int (nI (ρ 2))), (3, .int (nI q))] ⟨rfl, rfl, rfl, (by rw [← nI_dec]; rfl), trivial⟩ ?_
          refine ih _ (by omega) (by omega) ?_ ?_ ?_
          · intro k hk
            simp only [up2, show ¬ (k = q + 1) by omega, and_false, if_false]
            exact hlo k (by omega)
          · intro k hk1 hk2
            by_cases e : k = q + 1
            · subst e
              simp only [up2, and_self, if_true]
              rfl
            · simp only [up2, e, and_false, if_false]
              exact hhi k (by omega) hk2
          · intro a ha
            rw [← hfr a ha]
            funext j
            simp [up2, ha]
  refine x_aload_n dX1_putCharger_0 rfl ?_
  refine x_get 3 hO dX1_putCharger_1 f_X1_41 (by first | (simp only [gK_wI]; assumption) | assumption) ⟨by decide, by decide⟩ (v := .int (nI (ρ 2))) v5 ?_
  refine x_istore_n dX1_putCharger_4 (by decide) ?_
  refine x_aload_n dX1_putCharger_5 rfl ?_
  refine x_callV (As := []) 3 hO dX1_putCharger_6 o_X1_isFullOfChargers v_X1_isFullOfChargers l_X1_114 ⟨by decide, by decide⟩ (by first | (simp only [gK_wI]; assumption) | assumption) ⟨by decide, by decide⟩ rfl ⟨by decide, by decide⟩ rfl rfl (Nat.le_of_ble_eq_true rfl) (s_isFullOfChargers2 hO hS hV.2.1 (by omega) (fun r6 hr6 => ?_))
  dsimp only [Option.toList, List.cons_append, List.nil_append]
  refine x_if_eq (tgt := 14) dX1_putCharger_9 (by decide) (fun c9 => ?_) (fun c9 => ?_)
  · have p6 := (ite01 hr6).1 c9
    refine x_iload_n dX1_putCharger_14 rfl ?_
    refine x_istore_n dX1_putCharger_15 (by decide) ?_
    refine x_ls [(0, .ref d), (1, .int (nI p)), (2, .int (nI (ρ 2))), (3, .int (nI (ρ 2)))] ⟨rfl, rfl, rfl, rfl, trivial⟩ ?_
    refine loop (by omega) (ρ 2) (gI C) (by omega) (Nat.le_refl _) (fun k hk => (vp k hk).2) (fun k h1 h2 => absurd h1 (by omega)) (fun _ _ => rfl)
  · have p6 := (ite01 hr6).2 c9
    refine x_iconst (v := (-1)) dX1_putCharger_12 (by decide) ?_
    refine x_iret dX1_putCharger_13 rfl rfl ?_
    exact h0 p6
theorem s_tryPutCharger {G : GT} {C : AH} {Q : QT} {X : XT} {d : Nat} {ρ : Rw} {v : Int32} (hO : GO G) (hS : SkD C d) (hV : VaD (gI C) d ρ) (hW : Wf ρ) (h1 : ∀ p, 1 ≤ p → p ≤ 50 → v = nI p → ρ 2 < 5 → ∀ f : Nat → Nat → Int32, VaD f d (addC ρ p) → (∀ a : Nat, a < d ∨ d + 13 ≤ a → f a = gI C a) → Q (some (.int 1)) (wI C f)) (h0 : (¬ ∃ p, 1 ≤ p ∧ p ≤ 50 ∧ v = nI p ∧ ρ 2 < 5) → Q (some (.int 0)) C) : Mt G M_X1_tryPutCharger [.ref d, .int v] C Q X := by
  refine Mt_of (by decide) (Nat.le_of_ble_eq_true rfl) ?_
  obtain ⟨s0, s1, s2, s3, v4, v5, v6, v7, v8, v9, v10⟩ := SkD_f hS hV
  obtain ⟨hK, -, -, -, -, k1, n1, k2, n2, k3, n3, k4, n4, hbus⟩ := id hS
  obtain ⟨w1, w2, w7, w8, w9, w10, w11, w11', w12, wB, wP⟩ := id hW
  refine x_iload_n dX1_tryPutCharger_0 rfl ?_
  refine x_iconst (v := nI 1) dX1_tryPutCharger_1 (by decide) ?_
  refine x_bipush (v := nI 50) dX1_tryPutCharger_2 (by decide) ?_
  refine x_callSN (As := [_, _, _]) hO dX1_tryPutCharger_4 o_X4_isWithin s_X4_isWithin (n_X1_63 hO) ⟨by decide, by decide⟩ ⟨by decide, by decide⟩ rfl rfl (Nat.le_of_ble_eq_true rfl) (s_isWithin hO (fun r4 hr4 => ?_))
  dsimp only [Option.toList, List.cons_append, List.nil_append]
  refine x_if_eq (tgt := 23) dX1_tryPutCharger_7 (by decide) (fun c7 => ?_) (fun c7 => ?_)
  · have p4 := (ite01 hr4).1 c7
    refine x_iconst (v := nI 0) dX1_tryPutCharger_23 (by decide) ?_
    refine x_iret dX1_tryPutCharger_24 rfl (by first | rfl | assumption) ?_
    exact h0 fun ⟨p, q1, q2, q3, _⟩ => p4 ((rng (by decide) (by decide)).mpr ⟨p, q1, q2, q3⟩)
  · have p4 := (ite01 hr4).2 c7
    obtain ⟨m, m1, m2, rfl⟩ := (rng (by decide) (by decide)).mp p4
    refine x_aload_n dX1_tryPutCharger_10 rfl ?_
    refine x_iload_n dX1_tryPutCharger_11 rfl ?_
    refine x_callV (As := [_]) 3 hO dX1_tryPutCharger_12 o_X1_putCharger v_X1_putCharger l_X1_133 ⟨by decide, by decide⟩ (by first | (simp only [gK_wI]; assumption) | assumption) ⟨by decide, by decide⟩ rfl ⟨by decide, by decide⟩ rfl rfl (Nat.le_of_ble_eq_true rfl) (s_putCharger hO hS hV hW m1 m2 (fun h8 f hf1 hf2 => ?_) (fun h8 => ?_))
    · dsimp only [Option.toList, List.cons_append, List.nil_append]
      refine x_iconst (v := (-1)) dX1_tryPutCharger_15 (by decide) ?_
      refine x_icmp_eq (tgt := 23) dX1_tryPutCharger_16 (by decide) (fun c16 => ?_) (fun c16 => ?_)
      · exact absurd c16 (nI_m1 (by omega))
      · refine x_iconst (v := nI 1) dX1_tryPutCharger_19 (by decide) ?_
        refine x_goto (tgt := 24) dX1_tryPutCharger_20 (by decide) ?_
        refine x_iret dX1_tryPutCharger_24 rfl (by first | rfl | assumption) ?_
        exact h1 m m1 m2 rfl h8 f hf1 hf2
    · dsimp only [Option.toList, List.cons_append, List.nil_append]
      refine x_iconst (v := (-1)) dX1_tryPutCharger_15 (by decide) ?_
      refine x_icmp_eq (tgt := 23) dX1_tryPutCharger_16 (by decide) (fun c16 => ?_) (fun c16 => ?_)
      · refine x_iconst (v := nI 0) dX1_tryPutCharger_23 (by decide) ?_
        refine x_iret dX1_tryPutCharger_24 rfl (by first | rfl | assumption) ?_
        exact h0 fun ⟨_, _, _, _, q⟩ => by omega
      · exact absurd rfl c16

