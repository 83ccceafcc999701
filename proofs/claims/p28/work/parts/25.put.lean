/-! a depot: what is put in, what is tried *)-/
theorem addB_o {ρ : Rw} {s c n l k j : Nat} (h1 : j ≠ 1) (h : ∀ w, w < 7 → j ≠ bi (ρ 1) w) : addB ρ s c n l k j = ρ j := by
  unfold addB
  rw [if_neg h1, if_neg (h 0 (by omega)), if_neg (h 1 (by omega)), if_neg (h 2 (by omega)), if_neg (h 3 (by omega)), if_neg (h 4 (by omega)), if_neg (h 5 (by omega)), if_neg (h 6 (by omega))]
theorem addB_b {ρ : Rw} {s c n l k : Nat} : addB ρ s c n l k (bi (ρ 1) 0) = s ∧ addB ρ s c n l k (bi (ρ 1) 1) = c ∧ addB ρ s c n l k (bi (ρ 1) 2) = n ∧ addB ρ s c n l k (bi (ρ 1) 3) = l ∧ addB ρ s c n l k (bi (ρ 1) 4) = k ∧ addB ρ s c n l k (bi (ρ 1) 5) = 0 ∧ addB ρ s c n l k (bi (ρ 1) 6) = 0 ∧ addB ρ s c n l k 1 = ρ 1 + 1 := by
  have h : ∀ w, bi (ρ 1) w ≠ 1 := fun w => by simp only [bi]; omega
  simp [addB, bi]
  omega

theorem VaD_set {g : Nat → Nat → Int32} {d k v : Nat} {ρ : Rw} (hV : VaD g d ρ) (hk : okSN k v) {f : Nat → Nat → Int32} (hf : f = up2 g (d + 4) k (nI v)) : VaD f d (stS ρ k v) := by
  have hk6 := hk.1
  subst hf
  obtain ⟨v4, v5, v6, v7, v8, v9, v10, vs, vb, vp⟩ := hV
  have e : ∀ j, j < 7 ∨ 13 ≤ j → stS ρ k v j = ρ j := fun j hj => uN_n (by omega)
  refine ⟨?_, ?_, ?_, ?_, ?_, ?_, ?_, fun j hj => ?_, fun b hb w hw => ?_, fun c hc => ?_⟩
  · rw [e 1 (by omega), up2_n (by omega)]; exact v4
  · rw [e 2 (by omega), up2_n (by omega)]; exact v5
  · rw [e 0 (by omega), up2_n (by omega)]; exact v6
  · rw [e 3 (by omega), up2_n (by omega)]; exact v7
  · rw [e 4 (by omega), up2_n (by omega)]; exact v8
  · rw [e 5 (by omega), up2_n (by omega)]; exact v9
  · rw [e 6 (by omega), up2_n (by omega)]; exact v10
  · by_cases q : j = k
    · subst q
      rw [up2_s]
      exact congrArg nI uN_s.symm
    · rw [up2_n (by omega), vs j hj]
      exact congrArg nI (uN_n (by omega)).symm
  · rw [e 1 (by omega)] at hb
    rw [e (bi b w) (by simp only [bi]; omega), up2_n (by omega)]
    exact vb b hb w hw
  · rw [e 2 (by omega)] at hc
    rw [e (69 + c) (by omega), up2_n (by omega), up2_n (by omega), ordL_congr (e 2 (by omega)) (fun c _ => e (69 + c) (by omega))]
    exact vp c hc
theorem s_change {G : GT} {C : AH} {Q : QT} {X : XT} {d : Nat} {ρ : Rw} {sa va : Nat → Nat} {k v : Nat} (hO : GO G) (hX : GX G sa va) (hS : SkD C d) (hV : VaD (gI C) d ρ) (hW : Wf ρ) (hk : okSN k v) (hq : ∀ f : Nat → Nat → Int32, VaD f d (stS ρ k v) → (∀ a : Nat, a < d ∨ d + 13 ≤ a → f a = gI C a) → Q none (wI C f)) : Mt G M_X1_change [.ref d, .int (nI k), .int (nI v)] C Q X := by
  refine Mt_of (by decide) (Nat.le_of_ble_eq_true rfl) ?_
  obtain ⟨s0, s1, s2, s3, v4, v5, v6, v7, v8, v9, v10⟩ := SkD_f hS hV
  obtain ⟨hK, -, -, -, -, k1, n1, k2, n2, k3, n3, k4, n4, hbus⟩ := id hS
  obtain ⟨w1, w2, w7, w8, w9, w10, w11, w11', w12, wB, wP⟩ := id hW
  have hk6 := hk.1
  refine x_iload_n dX1_change_0 rfl ?_
  refine x_iload_n dX1_change_1 rfl ?_
  refine x_callSN (As := [_, _]) hO dX1_change_2 o_X4_isSetting s_X4_isSetting (n_X1_121 hO) ⟨by decide, by decide⟩ ⟨by decide, by decide⟩ rfl rfl (Nat.le_of_ble_eq_true rfl) (s_isSetting hO hX (fun r2 hr2 => ?_))
  dsimp only [Option.toList, List.cons_append, List.nil_append]
  refine x_if_eq (tgt := 15) dX1_change_5 (by decide) (fun c5 => ?_) (fun c5 => ?_)
  · exact absurd (okS_N.mpr ⟨k, v, rfl, rfl, hk⟩) ((ite01 hr2).1 c5)
  · have p2 := (ite01 hr2).2 c5
    refine x_aload_n dX1_change_8 rfl ?_
    refine x_get 3 hO dX1_change_9 f_X1_24 (by first | (simp only [gK_wI]; assumption) | assumption) ⟨by decide, by decide⟩ (v := .ref (d + 4)) s3 ?_
    refine x_iload_n dX1_change_12 rfl ?_
    refine x_iload_n dX1_change_13 rfl ?_
    refine x_iast _ _ hO dX1_change_14 (by first | (simp only [gK_wI]; assumption) | assumption) rfl (by first | (simp only [gN_wI]; assumption) | assumption) (by omega) (by decide) ?_
    refine x_ret dX1_change_15 rfl ?_
    refine hq _ ?_ ?_
    · refine VaD_set hV hk rfl
    · intro a ha
      funext q
      rw [up2_n (by omega)]
theorem s_tryChange {G : GT} {C : AH} {Q : QT} {X : XT} {d : Nat} {ρ : Rw} {sa va : Nat → Nat} {w v : Int32} (hO : GO G) (hX : GX G sa va) (hS : SkD C d) (hV : VaD (gI C) d ρ) (hW : Wf ρ) (h1 : ∀ k x, w = nI k → v = nI x → okSN k x → ∀ f : Nat → Nat → Int32, VaD f d (stS ρ k x) → (∀ a : Nat, a < d ∨ d + 13 ≤ a → f a = gI C a) → Q (some (.int 1)) (wI C f)) (h0 : ¬ okS w v → Q (some (.int 0)) C) : Mt G M_X1_tryChange [.ref d, .int w, .int v] C Q X := by
  refine Mt_of (by decide) (Nat.le_of_ble_eq_true rfl) ?_
  have hK := hS.1
  refine x_iload_n dX1_tryChange_0 rfl ?_
  refine x_iload_n dX1_tryChange_1 rfl ?_
  refine x_callSN (As := [_, _]) hO dX1_tryChange_2 o_X4_isSetting s_X4_isSetting (n_X1_121 hO) ⟨by decide, by decide⟩ ⟨by decide, by decide⟩ rfl rfl (Nat.le_of_ble_eq_true rfl) (s_isSetting hO hX (fun r2 hr2 => ?_))
  dsimp only [Option.toList, List.cons_append, List.nil_append]
  refine x_if_ne (tgt := 10) dX1_tryChange_5 (by decide) (fun c5 => ?_) (fun c5 => ?_)
  · have p2 := (ite01 hr2).2 c5
    obtain ⟨k, x, rfl, rfl, hk⟩ := okS_N.mp p2
    refine x_aload_n dX1_tryChange_10 rfl ?_
    refine x_iload_n dX1_tryChange_11 rfl ?_
    refine x_iload_n dX1_tryChange_12 rfl ?_
    refine x_callV (As := [_, _]) 3 hO dX1_tryChange_13 o_X1_change v_X1_change l_X1_139 ⟨by decide, by decide⟩ (by first | (simp only [gK_wI]; assumption) | assumption) ⟨by decide, by decide⟩ rfl ⟨by decide, by decide⟩ rfl rfl (Nat.le_of_ble_eq_true rfl) (s_change hO hX hS hV hW hk (fun f hf1 hf2 => ?_))
    dsimp only [Option.toList, List.cons_append, List.nil_append]
    refine x_iconst (v := nI 1) dX1_tryChange_16 (by decide) ?_
    refine x_iret dX1_tryChange_17 rfl (by first | rfl | assumption) ?_
    exact h1 k x rfl rfl hk f hf1 hf2
  · have p2 := (ite01 hr2).1 c5
    refine x_iconst (v := nI 0) dX1_tryChange_8 (by decide) ?_
    refine x_iret dX1_tryChange_9 rfl (by first | rfl | assumption) ?_
    exact h0 p2

theorem nI_m1 {n : Nat} (h : n < 2147483648) : nI n ≠ -1 := fun e => by
  have h9 := congrArg Int32.toInt e
  rw [nI_toInt h] at h9
  exact absurd h9 (by show ¬ (n : Int) = -1; omega)
theorem s_putBus {G : GT} {C : AH} {Q : QT} {X : XT} {d : Nat} {ρ : Rw} {s c n l k : Nat} (hO : GO G) (hS : SkD C d) (hV : VaD (gI C) d ρ) (hW : Wf ρ) (hq : ρ 1 < 8 → ∀ f : Nat → Nat → Int32, VaD f d (addB ρ s c n l k) → (∀ a : Nat, a < d ∨ d + 13 ≤ a → f a = gI C a) → Q (some (.int (nI (ρ 1)))) (wI C f)) (h0 : 8 ≤ ρ 1 → Q (some (.int (-1))) C) : Mt G M_X1_putBus [.ref d, .int (nI s), .int (nI c), .int (nI n), .int (nI l), .int (nI k)] C Q X := by
  refine Mt_of (by decide) (Nat.le_of_ble_eq_true rfl) ?_
  obtain ⟨s0, s1, s2, s3, v4, v5, v6, v7, v8, v9, v10⟩ := SkD_f hS hV
  obtain ⟨hK, -, -, -, -, k1, n1, k2, n2, k3, n3, k4, n4, hbus⟩ := id hS
  obtain ⟨w1, w2, w7, w8, w9, w10, w11, w11', w12, wB, wP⟩ := id hW
  refine x_aload_n dX1_putBus_0 rfl ?_
  refine x_get 3 hO dX1_putBus_1 f_X1_37 (by first | (simp only [gK_wI]; assumption) | assumption) ⟨by decide, by decide⟩ (v := .int (nI (ρ 1))) v4 ?_
  refine x_istore dX1_putBus_4 (by decide) ?_
  refine x_aload_n dX1_putBus_6 rfl ?_
  refine x_callV (As := []) 3 hO dX1_putBus_7 o_X1_isFullOfBuses v_X1_isFullOfBuses l_X1_103 ⟨by decide, by decide⟩ (by first | (simp only [gK_wI]; assumption) | assumption) ⟨by decide, by decide⟩ rfl ⟨by decide, by decide⟩ rfl rfl (Nat.le_of_ble_eq_true rfl) (s_isFullOfBuses hO hS hV hW (fun r7 hr7 => ?_))
  dsimp only [Option.toList, List.cons_append, List.nil_append]
  refine x_if_eq (tgt := 15) dX1_putBus_10 (by decide) (fun c10 => ?_) (fun c10 => ?_)
  · have p7 := (ite01 hr7).1 c10
    have h8 : ρ 1 < 8 := by have := (ite01 hr7).1 c10; omega
    have kb := (hbus (ρ 1) h8).2
    have hq := hq h8
    refine x_aload_n dX1_putBus_15 rfl ?_
    refine x_get 3 hO dX1_putBus_16 f_X1_11 (by first | (simp only [gK_wI]; assumption) | assumption) ⟨by decide, by decide⟩ (v := .ref (d + 1)) s0 ?_
    refine x_iload dX1_putBus_19 rfl ?_
    refine x_aald 25 _ _ hO dX1_putBus_21 (by first | (simp only [gK_wI]; assumption) | assumption) (by decide) rfl (by first | (simp only [gN_wI]; assumption) | assumption) (by omega) (by decide) ?_
    rw [show gR C (d + 1) (ρ 1) = some (d + 5 + ρ 1) from (hbus (ρ 1) h8).1]
    refine x_astore (x := d + 5 + ρ 1) dX1_putBus_22 (by decide) ?_
    refine x_aload dX1_putBus_24 rfl ?_
    refine x_iload_n dX1_putBus_26 rfl ?_
    refine x_callV (As := [_]) 2 hO dX1_putBus_27 o_X0_giveBattery v_X0_giveBattery l_X1_106 ⟨by decide, by decide⟩ (by first | (simp only [gK_wI]; assumption) | assumption) ⟨by decide, by decide⟩ rfl ⟨by decide, by decide⟩ rfl rfl (Nat.le_of_ble_eq_true rfl) (s_X0_giveBattery (h := d + 5 + ρ 1) hO kb ?_)
    dsimp only [Option.toList, List.cons_append, List.nil_append]
    refine x_aload dX1_putBus_30 rfl ?_
    refine x_iload_n dX1_putBus_32 rfl ?_
    refine x_iload dX1_putBus_33 rfl ?_
    refine x_iload dX1_putBus_35 rfl ?_
    refine x_callV (As := [_, _, _]) 2 hO dX1_putBus_37 o_X0_giveRoute v_X0_giveRoute l_X1_110 ⟨by decide, by decide⟩ (by first | (simp only [gK_wI]; assumption) | assumption) ⟨by decide, by decide⟩ rfl ⟨by decide, by decide⟩ rfl rfl (Nat.le_of_ble_eq_true rfl) (s_X0_giveRoute (h := d + 5 + ρ 1) hO kb ?_)
    dsimp only [Option.toList, List.cons_append, List.nil_append]
    simp only [wI_wI, gI_wI]
    refine x_aload dX1_putBus_40 rfl ?_
    refine x_iload_n dX1_putBus_42 rfl ?_
    refine x_putI 2 hO dX1_putBus_43 f_X1_79 (fw_2_1 _) (by first | (simp only [gK_wI]; assumption) | assumption) ⟨by decide, by decide⟩ rfl rfl ?_
    simp only [wI_wI, gI_wI]
    refine x_aload dX1_putBus_46 rfl ?_
    refine x_iconst (v := nI 0) dX1_putBus_48 (by decide) ?_
    refine x_putZ 2 hO dX1_putBus_49 f_X1_71 (fw_2_6 _) (by first | (simp only [gK_wI]; assumption) | assumption) ⟨by decide, by decide⟩ rfl (by first | exact Or.inl rfl | exact Or.inr rfl | assumption) ?_
    simp only [wI_wI, gI_wI]
    refine x_aload_n dX1_putBus_52 rfl ?_
    refine x_iload dX1_putBus_53 rfl ?_
    refine x_iconst (v := nI 1) dX1_putBus_55 (by decide) ?_
    refine x_iadd dX1_putBus_56 ?_
    refine x_putI 3 hO dX1_putBus_57 f_X1_37 (fw_3_4 _) (by first | (simp only [gK_wI]; assumption) | assumption) ⟨by decide, by decide⟩ rfl rfl ?_
    refine x_iload dX1_putBus_60 rfl ?_
    refine x_iret dX1_putBus_62 rfl rfl ?_
    simp only [wI_wI, gI_wI]
    refine hq _ ?_ ?_
    · obtain ⟨u0, u1, u2, u3, u4, u5, u6, u7⟩ := addB_b (ρ := ρ) (s := s) (c := c) (n := n) (l := l) (k := k)
      obtain ⟨q4, q5, q6, q7, q8, q9, q10, qs, qb, qp⟩ := hV
      have e : ∀ j, j ≠ 1 → (∀ w, w < 7 → j ≠ bi (ρ 1) w) → addB ρ s c n l k j = ρ j := fun j a b => addB_o a b
      have hnd : ¬ (d = d + 5 + ρ 1) := by omega
      refine ⟨?_, ?_, ?_, ?_, ?_, ?_, ?_, fun j hj => ?_, fun b hb w hw => ?_, fun c9 hc => ?_⟩
      · rw [u7, up2_s, nI_add]
      · rw [e 2 (by omega) (fun w hw => by simp only [bi]; omega), ← q5]; simp [up2, hnd]
      · rw [e 0 (by omega) (fun w hw => by simp only [bi]; omega), ← q6]; simp [up2, hnd]
      · rw [e 3 (by omega) (fun w hw => by simp only [bi]; omega), ← q7]; simp [up2, hnd]
      · rw [e 4 (by omega) (fun w hw => by simp only [bi]; omega), ← q8]; simp [up2, hnd]
      · rw [e 5 (by omega) (fun w hw => by simp only [bi]; omega), ← q9]; simp [up2, hnd]
      · rw [e 6 (by omega) (fun w hw => by simp only [bi]; omega), ← q10]; simp [up2, hnd]
      · rw [e (7 + j) (by omega) (fun w hw => by simp only [bi]; omega), ← qs j hj]; simp [up2, show ¬ (d + 4 = d) by omega, show ¬ (d + 4 = d + 5 + ρ 1) by omega]
      · rw [u7] at hb
        have hnd2 : ¬ (d + 5 + b = d) := by omega
        by_cases eb : b = ρ 1
        · subst eb
          match w, hw with
          | 0, _ => rw [u0]; simp [up2, hnd2]
          | 1, _ => rw [u1]; simp [up2, hnd2]
          | 2, _ => rw [u2]; simp [up2, hnd2]
          | 3, _ => rw [u3]; simp [up2, hnd2]
          | 4, _ => rw [u4]; simp [up2, hnd2]
          | 5, _ => rw [u5]; simp [up2, hnd2, nI_0]
          | 6, _ => rw [u6]; simp [up2, hnd2]
        · rw [e (bi b w) (by simp only [bi]; omega) (fun w9 hw9 => by simp only [bi]; omega), ← qb b (by omega) w hw]
          simp [up2, hnd2, eb]
      · have e2 := e 2 (by omega) (fun w hw => by simp only [bi]; omega)
        rw [e2] at hc
        rw [e (69 + c9) (by omega) (fun w hw => by simp only [bi]; omega), ordL_congr e2 (fun c8 h8 => e (69 + c8) (by omega) (fun w hw => by simp only [bi]; omega)), ← (qp c9 hc).1, ← (qp c9 hc).2]
        simp [up2, show ¬ (d + 2 = d) by omega, show ¬ (d + 3 = d) by omega, show ¬ (d + 2 = d + 5 + ρ 1) by omega, show ¬ (d + 3 = d + 5 + ρ 1) by omega]
    · intro a ha
      funext q
      simp [up2, show ¬ (a = d) by omega, show ¬ (a = d + 5 + ρ 1) by omega]
  · have p7 := (ite01 hr7).2 c10
    refine x_iconst (v := (-1)) dX1_putBus_13 (by decide) ?_
    refine x_iret dX1_putBus_14 rfl rfl ?_
    exact h0 ((ite01 hr7).2 c10)
theorem okB_I {s c n l k : Nat} (hs : s < 100000 ∧ c < 100000 ∧ n < 100000 ∧ l < 100000 ∧ k < 100000) : okB (nI s) (nI c) (nI n) (nI l) (nI k) ↔ okBN s c n l k := by
  obtain ⟨z1, z2, z3, z4, z5⟩ := hs
  rw [okB_N]
  constructor
  · rintro ⟨a, b, x, y, z, e1, e2, e3, e4, e5, h⟩
    have hb := h
    obtain ⟨a1, a2, a3, a4, a5, a6, a7, a8⟩ := hb
    rw [(nI_eq (by omega) (by omega)).mp e1, (nI_eq (by omega) (by omega)).mp e2, (nI_eq (by omega) (by omega)).mp e3, (nI_eq (by omega) (by omega)).mp e4, (nI_eq (by omega) (by omega)).mp e5]
    exact h
  · intro h
    exact ⟨s, c, n, l, k, rfl, rfl, rfl, rfl, rfl, h⟩
theorem s_tryPutBus {G : GT} {C : AH} {Q : QT} {X : XT} {d : Nat} {ρ : Rw} {s c n l k : Nat} (hO : GO G) (hS : SkD C d) (hV : VaD (gI C) d ρ) (hW : Wf ρ) (h1 : okBN s c n l k → ρ 1 < 8 → ∀ f : Nat → Nat → Int32, VaD f d (addB ρ s c n l k) → (∀ a : Nat, a < d ∨ d + 13 ≤ a → f a = gI C a) → Q (some (.int 1)) (wI C f)) (h0 : ¬ (okBN s c n l k ∧ ρ 1 < 8) → Q (some (.int 0)) C) (hs : s < 100000 ∧ c < 100000 ∧ n < 100000 ∧ l < 100000 ∧ k < 100000) : Mt G M_X1_tryPutBus [.ref d, .int (nI s), .int (nI c), .int (nI n), .int (nI l), .int (nI k)] C Q X := by
  refine Mt_of (by decide) (Nat.le_of_ble_eq_true rfl) ?_
  obtain ⟨s0, s1, s2, s3, v4, v5, v6, v7, v8, v9, v10⟩ := SkD_f hS hV
  obtain ⟨hK, -, -, -, -, k1, n1, k2, n2, k3, n3, k4, n4, hbus⟩ := id hS
  obtain ⟨w1, w2, w7, w8, w9, w10, w11, w11', w12, wB, wP⟩ := id hW
  refine x_iload_n dX1_tryPutBus_0 rfl ?_
  refine x_iload_n dX1_tryPutBus_1 rfl ?_
  refine x_iload_n dX1_tryPutBus_2 rfl ?_
  refine x_iload dX1_tryPutBus_3 rfl ?_
  refine x_iload dX1_tryPutBus_5 rfl ?_
  refine x_callSN (As := [_, _, _, _, _]) hO dX1_tryPutBus_7 o_X4_isBus s_X4_isBus (n_X1_125 hO) ⟨by decide, by decide⟩ ⟨by decide, by decide⟩ rfl rfl (Nat.le_of_ble_eq_true rfl) (s_isBus hO (fun r7 hr7 => ?_))
  dsimp only [Option.toList, List.cons_append, List.nil_append]
  refine x_if_eq (tgt := 32) dX1_tryPutBus_10 (by decide) (fun c10 => ?_) (fun c10 => ?_)
  · have p7 := (ite01 hr7).1 c10
    rw [okB_I hs] at p7
    refine x_iconst (v := nI 0) dX1_tryPutBus_32 (by decide) ?_
    refine x_iret dX1_tryPutBus_33 rfl (by first | rfl | assumption) ?_
    exact h0 (fun q => p7 q.1)
  · have p7 := (ite01 hr7).2 c10
    rw [okB_I hs] at p7
    refine x_aload_n dX1_tryPutBus_13 rfl ?_
    refine x_iload_n dX1_tryPutBus_14 rfl ?_
    refine x_iload_n dX1_tryPutBus_15 rfl ?_
    refine x_iload_n dX1_tryPutBus_16 rfl ?_
    refine x_iload dX1_tryPutBus_17 rfl ?_
    refine x_iload dX1_tryPutBus_19 rfl ?_
    refine x_callV (As := [_, _, _, _, _]) 3 hO dX1_tryPutBus_21 o_X1_putBus v_X1_putBus l_X1_129 ⟨by decide, by decide⟩ (by first | (simp only [gK_wI]; assumption) | assumption) ⟨by decide, by decide⟩ rfl ⟨by decide, by decide⟩ rfl rfl (Nat.le_of_ble_eq_true rfl) (s_putBus hO hS hV hW (fun h8 f hf1 hf2 => ?_) (fun h8 => ?_))
    · dsimp only [Option.toList, List.cons_append, List.nil_append]
      refine x_iconst (v := (-1)) dX1_tryPutBus_24 (by decide) ?_
      refine x_icmp_eq (tgt := 32) dX1_tryPutBus_25 (by decide) (fun c25 => ?_) (fun c25 => ?_)
      · exact absurd c25 (nI_m1 (by omega))
      · refine x_iconst (v := nI 1) dX1_tryPutBus_28 (by decide) ?_
        refine x_goto (tgt := 33) dX1_tryPutBus_29 (by decide) ?_
        refine x_iret dX1_tryPutBus_33 rfl (by first | rfl | assumption) ?_
        exact h1 p7 h8 f hf1 hf2
    · dsimp only [Option.toList, List.cons_append, List.nil_append]
      refine x_iconst (v := (-1)) dX1_tryPutBus_24 (by decide) ?_
      refine x_icmp_eq (tgt := 32) dX1_tryPutBus_25 (by decide) (fun c25 => ?_) (fun c25 => ?_)
      · refine x_iconst (v := nI 0) dX1_tryPutBus_32 (by decide) ?_
        refine x_iret dX1_tryPutBus_33 rfl (by first | rfl | assumption) ?_
        exact h0 (fun q => by omega)
      · exact absurd rfl c25

theorem btB_o {ρ : Rw} {b s j : Nat} (h0 : j ≠ bi b 0) (h1 : j ≠ bi b 1) (h5 : j ≠ bi b 5) : btB ρ b s j = ρ j := by
  unfold btB
  rw [uN_n h5, uN_n h1, uN_n h0]
theorem btB_b0 {ρ : Rw} {b s : Nat} : btB ρ b s (bi b 0) = s := by
  unfold btB
  rw [uN_n (by simp only [bi]; omega), uN_n (by simp only [bi]; omega), uN_s]
theorem btB_b1 {ρ : Rw} {b s : Nat} : btB ρ b s (bi b 1) = 0 := by
  unfold btB
  rw [uN_n (by simp only [bi]; omega), uN_s]
theorem btB_b5 {ρ : Rw} {b s : Nat} : btB ρ b s (bi b 5) = 0 := by
  unfold btB
  rw [uN_s]
theorem rtB_o {ρ : Rw} {b n l k j : Nat} (h2 : j ≠ bi b 2) (h3 : j ≠ bi b 3) (h4 : j ≠ bi b 4) : rtB ρ b n l k j = ρ j := by
  unfold rtB
  rw [uN_n h4, uN_n h3, uN_n h2]
theorem rtB_b2 {ρ : Rw} {b n l k : Nat} : rtB ρ b n l k (bi b 2) = n := by
  unfold rtB
  rw [uN_n (by simp only [bi]; omega), uN_n (by simp only [bi]; omega), uN_s]
theorem rtB_b3 {ρ : Rw} {b n l k : Nat} : rtB ρ b n l k (bi b 3) = l := by
  unfold rtB
  rw [uN_n (by simp only [bi]; omega), uN_s]
theorem rtB_b4 {ρ : Rw} {b n l k : Nat} : rtB ρ b n l k (bi b 4) = k := by
  unfold rtB
  rw [uN_s]
theorem s_tryPassHours {G : GT} {C : AH} {Q : QT} {X : XT} {d : Nat} {ρ : Rw} {T : Nat} {n : Int32} (hO : GO G) (hS : SkD C d) (hV : VaD (gI C) d ρ) (hW : Wf ρ) (hB : Bd T 0 ρ) (hT : T + 48 ≤ 50000) (h1 : ∀ m, 1 ≤ m → m ≤ 48 → n = nI m → ∀ f : Nat → Nat → Int32, VaD f d (runN m ρ) → (∀ a : Nat, a < d ∨ d + 13 ≤ a → f a = gI C a) → Q (some (.int 1)) (wI C f)) (h0 : (¬ ∃ m, 1 ≤ m ∧ m ≤ 48 ∧ n = nI m) → Q (some (.int 0)) C) : Mt G M_X1_tryPassHours [.ref d, .int n] C Q X := by
  refine Mt_of (by decide) (Nat.le_of_ble_eq_true rfl) ?_
  have hK := hS.1
  refine x_iload_n dX1_tryPassHours_0 rfl ?_
  refine x_iconst (v := nI 1) dX1_tryPassHours_1 (by decide) ?_
  refine x_bipush (v := nI 48) dX1_tryPassHours_2 (by decide) ?_
  refine x_callSN (As := [_, _, _]) hO dX1_tryPassHours_4 o_X4_isWithin s_X4_isWithin (n_X1_63 hO) ⟨by decide, by decide⟩ ⟨by decide, by decide⟩ rfl rfl (Nat.le_of_ble_eq_true rfl) (s_isWithin hO (fun r4 hr4 => ?_))
  dsimp only [Option.toList, List.cons_append, List.nil_append]
  refine x_if_ne (tgt := 12) dX1_tryPassHours_7 (by decide) (fun c7 => ?_) (fun c7 => ?_)
  · have p4 := (ite01 hr4).2 c7
    obtain ⟨m, m1, m2, rfl⟩ := (rng (by decide) (by decide)).mp p4
    refine x_aload_n dX1_tryPassHours_12 rfl ?_
    refine x_iload_n dX1_tryPassHours_13 rfl ?_
    refine x_callV (As := [_]) 3 hO dX1_tryPassHours_14 o_X1_passHours v_X1_passHours l_X1_143 ⟨by decide, by decide⟩ (by first | (simp only [gK_wI]; assumption) | assumption) ⟨by decide, by decide⟩ rfl ⟨by decide, by decide⟩ rfl rfl (Nat.le_of_ble_eq_true rfl) (s_passHours hO hS hV hW hB (by omega) (fun f hf1 hf2 => ?_))
    dsimp only [Option.toList, List.cons_append, List.nil_append]
    refine x_iconst (v := nI 1) dX1_tryPassHours_17 (by decide) ?_
    refine x_iret dX1_tryPassHours_18 rfl (by first | rfl | assumption) ?_
    exact h1 m m1 m2 rfl f hf1 hf2
  · have p4 := (ite01 hr4).1 c7
    refine x_iconst (v := nI 0) dX1_tryPassHours_10 (by decide) ?_
    refine x_iret dX1_tryPassHours_11 rfl (by first | rfl | assumption) ?_
    exact h0 (fun q => p4 ((rng (by decide) (by decide)).mpr q))
theorem s_unitsOf {G : GT} {C : AH} {Q : QT} {X : XT} {d : Nat} {ρ : Rw} {s : LT} {b : Nat} (hO : GO G) (hS : SkD C d) (hV : VaD (gI C) d ρ) (hW : Wf ρ) (hP : PlD (gI C) d ρ s) (hb : b < ρ 1) (hq : Q (some (.int (nI (s.2.2.1 b)))) C) : Mt G M_X1_unitsOf [.ref d, .int (nI b)] C Q X := by
  refine Mt_of (by decide) (Nat.le_of_ble_eq_true rfl) ?_
  obtain ⟨s0, s1, s2, s3, v4, v5, v6, v7, v8, v9, v10⟩ := SkD_f hS hV
  obtain ⟨hK, -, -, -, -, k1, n1, k2, n2, k3, n3, k4, n4, hbus⟩ := id hS
  obtain ⟨w1, w2, w7, w8, w9, w10, w11, w11', w12, wB, wP⟩ := id hW
  refine x_aload_n dX1_unitsOf_0 rfl ?_
  refine x_iload_n dX1_unitsOf_1 rfl ?_
  refine x_callV (As := [_]) 3 hO dX1_unitsOf_2 o_X1_busAt v_X1_busAt l_X1_82 ⟨by decide, by decide⟩ (by first | (simp only [gK_wI]; assumption) | assumption) ⟨by decide, by decide⟩ rfl ⟨by decide, by decide⟩ rfl rfl (Nat.le_of_ble_eq_true rfl) (s_busAt hO hS hV hW (fun j hj hb9 => ?_) (fun hn => ?_))
  · dsimp only [Option.toList, List.cons_append, List.nil_append]
    have e9 : b = j := (nI_eq (by omega) (by omega)).mp hb9
    subst e9
    have kb := (hbus b (by omega)).2
    refine x_astore_n dX1_unitsOf_5 (by decide) ?_
    refine x_aload_n dX1_unitsOf_6 rfl ?_
    refine x_ifnonnullR (tgt := 14) dX1_unitsOf_7 (by decide) ?_
    refine x_aload_n dX1_unitsOf_14 rfl ?_
    refine x_get 2 hO dX1_unitsOf_15 f_X1_183 (by first | (simp only [gK_wI]; assumption) | assumption) ⟨by decide, by decide⟩ (v := .int (nI (s.2.2.1 b))) (congrArg Value.int (hP b hb).2.2) ?_
    refine x_iret dX1_unitsOf_18 rfl rfl ?_
    exact hq
  · exact absurd rfl (hn b hb)
theorem s_chargerOf {G : GT} {C : AH} {Q : QT} {X : XT} {d : Nat} {ρ : Rw} {s : LT} {b : Int32} (hO : GO G) (hS : SkD C d) (hV : VaD (gI C) d ρ) (hW : Wf ρ) (hP : PlD (gI C) d ρ s) (h1 : ∀ j, j < ρ 1 → b = nI j → Q (some (.int (enc (s.2.2.2.1 j)))) C) (h0 : (∀ j, j < ρ 1 → b ≠ nI j) → Q (some (.int (-1))) C) : Mt G M_X1_chargerOf [.ref d, .int b] C Q X := by
  refine Mt_of (by decide) (Nat.le_of_ble_eq_true rfl) ?_
  obtain ⟨s0, s1, s2, s3, v4, v5, v6, v7, v8, v9, v10⟩ := SkD_f hS hV
  obtain ⟨hK, -, -, -, -, k1, n1, k2, n2, k3, n3, k4, n4, hbus⟩ := id hS
  obtain ⟨w1, w2, w7, w8, w9, w10, w11, w11', w12, wB, wP⟩ := id hW
  refine x_aload_n dX1_chargerOf_0 rfl ?_
  refine x_iload_n dX1_chargerOf_1 rfl ?_
  refine x_callV (As := [_]) 3 hO dX1_chargerOf_2 o_X1_busAt v_X1_busAt l_X1_82 ⟨by decide, by decide⟩ (by first | (simp only [gK_wI]; assumption) | assumption) ⟨by decide, by decide⟩ rfl ⟨by decide, by decide⟩ rfl rfl (Nat.le_of_ble_eq_true rfl) (s_busAt hO hS hV hW (fun j hj hb9 => ?_) (fun hn => ?_))
  · dsimp only [Option.toList, List.cons_append, List.nil_append]
    have kb := (hbus j (by omega)).2
    refine x_astore_n dX1_chargerOf_5 (by decide) ?_
    refine x_aload_n dX1_chargerOf_6 rfl ?_
    refine x_ifnonnullR (tgt := 14) dX1_chargerOf_7 (by decide) ?_
    refine x_aload_n dX1_chargerOf_14 rfl ?_
    refine x_get 2 hO dX1_chargerOf_15 f_X1_180 (by first | (simp only [gK_wI]; assumption) | assumption) ⟨by decide, by decide⟩ (v := .int (enc (s.2.2.2.1 j))) (congrArg Value.int (hP j hj).2.1) ?_
    refine x_iret dX1_chargerOf_18 rfl rfl ?_
    first | exact h0 hn | exact h1 j hj hb9
  · dsimp only [Option.toList, List.cons_append, List.nil_append]
    refine x_astore_nZ dX1_chargerOf_5 (by decide) ?_
    refine x_aload_nZ dX1_chargerOf_6 rfl ?_
    refine x_ifnonnullZ dX1_chargerOf_7 ?_
    refine x_iconst (v := (-1)) dX1_chargerOf_10 (by decide) ?_
    refine x_goto (tgt := 18) dX1_chargerOf_11 (by decide) ?_
    refine x_iret dX1_chargerOf_18 rfl rfl ?_
    first | exact h0 hn | exact h1 j hj hb9
theorem s_tryGiveBattery {G : GT} {C : AH} {Q : QT} {X : XT} {d : Nat} {ρ : Rw} {b v : Int32} (hO : GO G) (hS : SkD C d) (hV : VaD (gI C) d ρ) (hW : Wf ρ) (h1 : ∀ j x, j < ρ 1 → b = nI j → ρ (bi j 6) = 0 → 10 ≤ x → x ≤ 400 → v = nI x → ∀ f : Nat → Nat → Int32, VaD f d (btB ρ j x) → (∀ a : Nat, a < d ∨ d + 13 ≤ a → f a = gI C a) → Q (some (.int 1)) (wI C f)) (h0 : (¬ ∃ j x, j < ρ 1 ∧ b = nI j ∧ ρ (bi j 6) = 0 ∧ 10 ≤ x ∧ x ≤ 400 ∧ v = nI x) → Q (some (.int 0)) C) : Mt G M_X1_tryGiveBattery [.ref d, .int b, .int v] C Q X := by
  refine Mt_of (by decide) (Nat.le_of_ble_eq_true rfl) ?_
  obtain ⟨s0, s1, s2, s3, v4, v5, v6, v7, v8, v9, v10⟩ := SkD_f hS hV
  obtain ⟨hK, -, -, -, -, k1, n1, k2, n2, k3, n3, k4, n4, hbus⟩ := id hS
  obtain ⟨w1, w2, w7, w8, w9, w10, w11, w11', w12, wB, wP⟩ := id hW
  have vb := hV.2.2.2.2.2.2.2.2.1
  refine x_aload_n dX1_tryGiveBattery_0 rfl ?_
  refine x_iload_n dX1_tryGiveBattery_1 rfl ?_
  refine x_callV (As := [_]) 3 hO dX1_tryGiveBattery_2 o_X1_busAt v_X1_busAt l_X1_82 ⟨by decide, by decide⟩ (by first | (simp only [gK_wI]; assumption) | assumption) ⟨by decide, by decide⟩ rfl ⟨by decide, by decide⟩ rfl rfl (Nat.le_of_ble_eq_true rfl) (s_busAt hO hS hV hW (fun j hj hb9 => ?_) (fun hn => ?_))
  · dsimp only [Option.toList, List.cons_append, List.nil_append]
    obtain ⟨b0, b0', b1, b2, b2', b3, b4, b34, b6⟩ := wB j hj
    have kb := (hbus j (by omega)).2
    refine x_astore_n dX1_tryGiveBattery_5 (by decide) ?_
    refine x_aload_n dX1_tryGiveBattery_6 rfl ?_
    refine x_ifnullR dX1_tryGiveBattery_7 ?_
    refine x_aload_n dX1_tryGiveBattery_10 rfl ?_
    refine x_get 2 hO dX1_tryGiveBattery_11 f_X1_71 (by first | (simp only [gK_wI]; assumption) | assumption) ⟨by decide, by decide⟩ (v := .int (nI (ρ (bi j 6)))) (congrArg Value.int (vb j hj 6 (by decide))) ?_
    refine x_if_ne (tgt := 29) dX1_tryGiveBattery_14 (by decide) (fun c14 => ?_) (fun c14 => ?_)
    · refine x_iconst (v := nI 0) dX1_tryGiveBattery_29 (by decide) ?_
      refine x_iret dX1_tryGiveBattery_30 rfl (by first | rfl | assumption) ?_
      refine h0 ?_
      rintro ⟨j9, x9, q1, q2, q3, q4, q5, q6⟩
      first
        | exact hn j9 q1 q2
        | (have e9 : j9 = j := (nI_eq (by omega) (by omega)).mp (q2.symm.trans hb9)
           subst e9
           first
             | (simp (disch := omega) only [nI_z] at c14; exact c14 q3)
             | exact p23 ((rng (by decide) (by decide)).mpr ⟨x9, q4, q5, q6⟩))
    · refine x_iload_n dX1_tryGiveBattery_17 rfl ?_
      refine x_bipush (v := nI 10) dX1_tryGiveBattery_18 (by decide) ?_
      refine x_sipush (v := nI 400) dX1_tryGiveBattery_20 (by decide) ?_
      refine x_callSN (As := [_, _, _]) hO dX1_tryGiveBattery_23 o_X4_isWithin s_X4_isWithin (n_X1_63 hO) ⟨by decide, by decide⟩ ⟨by decide, by decide⟩ rfl rfl (Nat.le_of_ble_eq_true rfl) (s_isWithin hO (fun r23 hr23 => ?_))
      dsimp only [Option.toList, List.cons_append, List.nil_append]
      refine x_if_ne (tgt := 31) dX1_tryGiveBattery_26 (by decide) (fun c26 => ?_) (fun c26 => ?_)
      · have p23 := (ite01 hr23).2 c26
        refine x_aload_n dX1_tryGiveBattery_31 rfl ?_
        refine x_iload_n dX1_tryGiveBattery_32 rfl ?_
        refine x_callV (As := [_]) 2 hO dX1_tryGiveBattery_33 o_X0_giveBattery v_X0_giveBattery l_X1_106 ⟨by decide, by decide⟩ (by first | (simp only [gK_wI]; assumption) | assumption) ⟨by decide, by decide⟩ rfl ⟨by decide, by decide⟩ rfl rfl (Nat.le_of_ble_eq_true rfl) (s_X0_giveBattery (h := d + 5 + j) hO kb ?_)
        dsimp only [Option.toList, List.cons_append, List.nil_append]
        refine x_iconst (v := nI 1) dX1_tryGiveBattery_36 (by decide) ?_
        refine x_iret dX1_tryGiveBattery_37 rfl (by first | rfl | assumption) ?_
        try simp only [wI_wI, gI_wI]
        obtain ⟨x, x1, x2, rfl⟩ := (rng (by decide) (by decide)).mp p23
        simp (disch := omega) only [nI_z] at c14
        refine h1 j x hj hb9 (by omega) x1 x2 rfl _ ?_ ?_
        · refine VaD_step hV (btB_o (by simp only [bi]; omega) (by simp only [bi]; omega) (by simp only [bi]; omega)) (btB_o (by simp only [bi]; omega) (by simp only [bi]; omega) (by simp only [bi]; omega)) (fun k9 hk9 => btB_o (by simp only [bi]; omega) (by simp only [bi]; omega) (by simp only [bi]; omega)) (fun c9 hc9 => btB_o (by simp only [bi]; omega) (by simp only [bi]; omega) (by simp only [bi]; omega)) ?_ ?_ ?_ ?_ ?_ ?_ ?_ ?_ ?_ ?_ ?_
          · funext q; simp [up2, show ¬ (d + 4 = d + 5 + j) by omega]
          · funext q; simp [up2, show ¬ (d + 2 = d + 5 + j) by omega]
          · funext q; simp [up2, show ¬ (d + 3 = d + 5 + j) by omega]
          · simp [up2, show ¬ (d = d + 5 + j) by omega]
          · simp [up2, show ¬ (d = d + 5 + j) by omega]
          · rw [btB_o (by simp only [bi]; omega) (by simp only [bi]; omega) (by simp only [bi]; omega), ← hV.2.2.1]; simp [up2, show ¬ (d = d + 5 + j) by omega]
          · rw [btB_o (by simp only [bi]; omega) (by simp only [bi]; omega) (by simp only [bi]; omega), ← hV.2.2.2.1]; simp [up2, show ¬ (d = d + 5 + j) by omega]
          · rw [btB_o (by simp only [bi]; omega) (by simp only [bi]; omega) (by simp only [bi]; omega), ← hV.2.2.2.2.1]; simp [up2, show ¬ (d = d + 5 + j) by omega]
          · rw [btB_o (by simp only [bi]; omega) (by simp only [bi]; omega) (by simp only [bi]; omega), ← hV.2.2.2.2.2.1]; simp [up2, show ¬ (d = d + 5 + j) by omega]
          · rw [btB_o (by simp only [bi]; omega) (by simp only [bi]; omega) (by simp only [bi]; omega), ← hV.2.2.2.2.2.2.1]; simp [up2, show ¬ (d = d + 5 + j) by omega]
          · intro b9 hb9' w hw
            by_cases e : b9 = j
            · subst e
              match w, hw with
              | 0, _ => rw [btB_b0]; simp [up2]
              | 1, _ => rw [btB_b1]; simp [up2, nI_0]
              | 2, _ => rw [btB_o (by simp only [bi]; omega) (by simp only [bi]; omega) (by simp only [bi]; omega), ← vb b9 hb9' 2 (by decide)]; simp [up2]
              | 3, _ => rw [btB_o (by simp only [bi]; omega) (by simp only [bi]; omega) (by simp only [bi]; omega), ← vb b9 hb9' 3 (by decide)]; simp [up2]
              | 4, _ => rw [btB_o (by simp only [bi]; omega) (by simp only [bi]; omega) (by simp only [bi]; omega), ← vb b9 hb9' 4 (by decide)]; simp [up2]
              | 5, _ => rw [btB_b5]; simp [up2, nI_0]
              | 6, _ => rw [btB_o (by simp only [bi]; omega) (by simp only [bi]; omega) (by simp only [bi]; omega), ← vb b9 hb9' 6 (by decide)]; simp [up2]
            · rw [btB_o (by simp only [bi]; omega) (by simp only [bi]; omega) (by simp only [bi]; omega), ← vb b9 hb9' w hw]
              simp [up2, e]
        · intro a ha
          funext q
          simp [up2, show ¬ (a = d + 5 + j) by omega]
      · have p23 := (ite01 hr23).1 c26
        refine x_iconst (v := nI 0) dX1_tryGiveBattery_29 (by decide) ?_
        refine x_iret dX1_tryGiveBattery_30 rfl (by first | rfl | assumption) ?_
        refine h0 ?_
        rintro ⟨j9, x9, q1, q2, q3, q4, q5, q6⟩
        first
          | exact hn j9 q1 q2
          | (have e9 : j9 = j := (nI_eq (by omega) (by omega)).mp (q2.symm.trans hb9)
             subst e9
             first
               | (simp (disch := omega) only [nI_z] at c14; exact c14 q3)
               | exact p23 ((rng (by decide) (by decide)).mpr ⟨x9, q4, q5, q6⟩))
  · dsimp only [Option.toList, List.cons_append, List.nil_append]
    refine x_astore_nZ dX1_tryGiveBattery_5 (by decide) ?_
    refine x_aload_nZ dX1_tryGiveBattery_6 rfl ?_
    refine x_ifnullZ (tgt := 29) dX1_tryGiveBattery_7 (by decide) ?_
    refine x_iconst (v := nI 0) dX1_tryGiveBattery_29 (by decide) ?_
    refine x_iret dX1_tryGiveBattery_30 rfl (by first | rfl | assumption) ?_
    refine h0 ?_
    rintro ⟨j9, x9, q1, q2, q3, q4, q5, q6⟩
    first
      | exact hn j9 q1 q2
      | (have e9 : j9 = j := (nI_eq (by omega) (by omega)).mp (q2.symm.trans hb9)
         subst e9
         first
           | (simp (disch := omega) only [nI_z] at c14; exact c14 q3)
           | exact p23 ((rng (by decide) (by decide)).mpr ⟨x9, q4, q5, q6⟩))
theorem s_tryGiveRoute {G : GT} {C : AH} {Q : QT} {X : XT} {d : Nat} {ρ : Rw} {b n l k : Int32} (hO : GO G) (hS : SkD C d) (hV : VaD (gI C) d ρ) (hW : Wf ρ) (h1 : ∀ j x y z, j < ρ 1 → b = nI j → ρ (bi j 6) = 0 → okRN x y z → n = nI x → l = nI y → k = nI z → ∀ f : Nat → Nat → Int32, VaD f d (rtB ρ j x y z) → (∀ a : Nat, a < d ∨ d + 13 ≤ a → f a = gI C a) → Q (some (.int 1)) (wI C f)) (h0 : (¬ ∃ j x y z, j < ρ 1 ∧ b = nI j ∧ ρ (bi j 6) = 0 ∧ okRN x y z ∧ n = nI x ∧ l = nI y ∧ k = nI z) → Q (some (.int 0)) C) : Mt G M_X1_tryGiveRoute [.ref d, .int b, .int n, .int l, .int k] C Q X := by
  refine Mt_of (by decide) (Nat.le_of_ble_eq_true rfl) ?_
  obtain ⟨s0, s1, s2, s3, v4, v5, v6, v7, v8, v9, v10⟩ := SkD_f hS hV
  obtain ⟨hK, -, -, -, -, k1, n1, k2, n2, k3, n3, k4, n4, hbus⟩ := id hS
  obtain ⟨w1, w2, w7, w8, w9, w10, w11, w11', w12, wB, wP⟩ := id hW
  have vb := hV.2.2.2.2.2.2.2.2.1
  refine x_aload_n dX1_tryGiveRoute_0 rfl ?_
  refine x_iload_n dX1_tryGiveRoute_1 rfl ?_
  refine x_callV (As := [_]) 3 hO dX1_tryGiveRoute_2 o_X1_busAt v_X1_busAt l_X1_82 ⟨by decide, by decide⟩ (by first | (simp only [gK_wI]; assumption) | assumption) ⟨by decide, by decide⟩ rfl ⟨by decide, by decide⟩ rfl rfl (Nat.le_of_ble_eq_true rfl) (s_busAt hO hS hV hW (fun j hj hb9 => ?_) (fun hn => ?_))
  · dsimp only [Option.toList, List.cons_append, List.nil_append]
    obtain ⟨b0, b0', b1, b2, b2', b3, b4, b34, b6⟩ := wB j hj
    have kb := (hbus j (by omega)).2
    refine x_astore dX1_tryGiveRoute_5 (by decide) ?_
    refine x_aload dX1_tryGiveRoute_7 rfl ?_
    refine x_ifnullR dX1_tryGiveRoute_9 ?_
    refine x_aload dX1_tryGiveRoute_12 rfl ?_
    refine x_get 2 hO dX1_tryGiveRoute_14 f_X1_71 (by first | (simp only [gK_wI]; assumption) | assumption) ⟨by decide, by decide⟩ (v := .int (nI (ρ (bi j 6)))) (congrArg Value.int (vb j hj 6 (by decide))) ?_
    refine x_if_ne (tgt := 30) dX1_tryGiveRoute_17 (by decide) (fun c17 => ?_) (fun c17 => ?_)
    · refine x_iconst (v := nI 0) dX1_tryGiveRoute_30 (by decide) ?_
      refine x_iret dX1_tryGiveRoute_31 rfl (by first | rfl | assumption) ?_
      refine h0 ?_
      rintro ⟨j9, x9, y9, z9, q1, q2, q3, q4, q5, q6, q7⟩
      first
        | exact hn j9 q1 q2
        | (have e9 : j9 = j := (nI_eq (by omega) (by omega)).mp (q2.symm.trans hb9)
           subst e9
           first
             | (simp (disch := omega) only [nI_z] at c17; exact c17 q3)
             | exact p24 (okR_N.mpr ⟨x9, y9, z9, q5, q6, q7, q4⟩))
    · refine x_iload_n dX1_tryGiveRoute_20 rfl ?_
      refine x_iload_n dX1_tryGiveRoute_21 rfl ?_
      refine x_iload dX1_tryGiveRoute_22 rfl ?_
      refine x_callSN (As := [_, _, _]) hO dX1_tryGiveRoute_24 o_X4_isRoute s_X4_isRoute (n_X1_136 hO) ⟨by decide, by decide⟩ ⟨by decide, by decide⟩ rfl rfl (Nat.le_of_ble_eq_true rfl) (s_isRoute hO (fun r24 hr24 => ?_))
      dsimp only [Option.toList, List.cons_append, List.nil_append]
      refine x_if_ne (tgt := 32) dX1_tryGiveRoute_27 (by decide) (fun c27 => ?_) (fun c27 => ?_)
      · have p24 := (ite01 hr24).2 c27
        refine x_aload dX1_tryGiveRoute_32 rfl ?_
        refine x_iload_n dX1_tryGiveRoute_34 rfl ?_
        refine x_iload_n dX1_tryGiveRoute_35 rfl ?_
        refine x_iload dX1_tryGiveRoute_36 rfl ?_
        refine x_callV (As := [_, _, _]) 2 hO dX1_tryGiveRoute_38 o_X0_giveRoute v_X0_giveRoute l_X1_110 ⟨by decide, by decide⟩ (by first | (simp only [gK_wI]; assumption) | assumption) ⟨by decide, by decide⟩ rfl ⟨by decide, by decide⟩ rfl rfl (Nat.le_of_ble_eq_true rfl) (s_X0_giveRoute (h := d + 5 + j) hO kb ?_)
        dsimp only [Option.toList, List.cons_append, List.nil_append]
        refine x_iconst (v := nI 1) dX1_tryGiveRoute_41 (by decide) ?_
        refine x_iret dX1_tryGiveRoute_42 rfl (by first | rfl | assumption) ?_
        try simp only [wI_wI, gI_wI]
        obtain ⟨x, y, z, rfl, rfl, rfl, hok⟩ := okR_N.mp p24
        simp (disch := omega) only [nI_z] at c17
        refine h1 j x y z hj hb9 (by omega) hok rfl rfl rfl _ ?_ ?_
        · refine VaD_step hV (rtB_o (by simp only [bi]; omega) (by simp only [bi]; omega) (by simp only [bi]; omega)) (rtB_o (by simp only [bi]; omega) (by simp only [bi]; omega) (by simp only [bi]; omega)) (fun k9 hk9 => rtB_o (by simp only [bi]; omega) (by simp only [bi]; omega) (by simp only [bi]; omega)) (fun c9 hc9 => rtB_o (by simp only [bi]; omega) (by simp only [bi]; omega) (by simp only [bi]; omega)) ?_ ?_ ?_ ?_ ?_ ?_ ?_ ?_ ?_ ?_ ?_
          · funext q; simp [up2, show ¬ (d + 4 = d + 5 + j) by omega]
          · funext q; simp [up2, show ¬ (d + 2 = d + 5 + j) by omega]
          · funext q; simp [up2, show ¬ (d + 3 = d + 5 + j) by omega]
          · simp [up2, show ¬ (d = d + 5 + j) by omega]
          · simp [up2, show ¬ (d = d + 5 + j) by omega]
          · rw [rtB_o (by simp only [bi]; omega) (by simp only [bi]; omega) (by simp only [bi]; omega), ← hV.2.2.1]; simp [up2, show ¬ (d = d + 5 + j) by omega]
          · rw [rtB_o (by simp only [bi]; omega) (by simp only [bi]; omega) (by simp only [bi]; omega), ← hV.2.2.2.1]; simp [up2, show ¬ (d = d + 5 + j) by omega]
          · rw [rtB_o (by simp only [bi]; omega) (by simp only [bi]; omega) (by simp only [bi]; omega), ← hV.2.2.2.2.1]; simp [up2, show ¬ (d = d + 5 + j) by omega]
          · rw [rtB_o (by simp only [bi]; omega) (by simp only [bi]; omega) (by simp only [bi]; omega), ← hV.2.2.2.2.2.1]; simp [up2, show ¬ (d = d + 5 + j) by omega]
          · rw [rtB_o (by simp only [bi]; omega) (by simp only [bi]; omega) (by simp only [bi]; omega), ← hV.2.2.2.2.2.2.1]; simp [up2, show ¬ (d = d + 5 + j) by omega]
          · intro b9 hb9' w hw
            by_cases e : b9 = j
            · subst e
              match w, hw with
              | 0, _ => rw [rtB_o (by simp only [bi]; omega) (by simp only [bi]; omega) (by simp only [bi]; omega), ← vb b9 hb9' 0 (by decide)]; simp [up2]
              | 1, _ => rw [rtB_o (by simp only [bi]; omega) (by simp only [bi]; omega) (by simp only [bi]; omega), ← vb b9 hb9' 1 (by decide)]; simp [up2]
              | 2, _ => rw [rtB_b2]; simp [up2]
              | 3, _ => rw [rtB_b3]; simp [up2]
              | 4, _ => rw [rtB_b4]; simp [up2]
              | 5, _ => rw [rtB_o (by simp only [bi]; omega) (by simp only [bi]; omega) (by simp only [bi]; omega), ← vb b9 hb9' 5 (by decide)]; simp [up2]
              | 6, _ => rw [rtB_o (by simp only [bi]; omega) (by simp only [bi]; omega) (by simp only [bi]; omega), ← vb b9 hb9' 6 (by decide)]; simp [up2]
            · rw [rtB_o (by simp only [bi]; omega) (by simp only [bi]; omega) (by simp only [bi]; omega), ← vb b9 hb9' w hw]
              simp [up2, e]
        · intro a ha
          funext q
          simp [up2, show ¬ (a = d + 5 + j) by omega]
      · have p24 := (ite01 hr24).1 c27
        refine x_iconst (v := nI 0) dX1_tryGiveRoute_30 (by decide) ?_
        refine x_iret dX1_tryGiveRoute_31 rfl (by first | rfl | assumption) ?_
        refine h0 ?_
        rintro ⟨j9, x9, y9, z9, q1, q2, q3, q4, q5, q6, q7⟩
        first
          | exact hn j9 q1 q2
          | (have e9 : j9 = j := (nI_eq (by omega) (by omega)).mp (q2.symm.trans hb9)
             subst e9
             first
               | (simp (disch := omega) only [nI_z] at c17; exact c17 q3)
               | exact p24 (okR_N.mpr ⟨x9, y9, z9, q5, q6, q7, q4⟩))
  · dsimp only [Option.toList, List.cons_append, List.nil_append]
    refine x_astoreZ dX1_tryGiveRoute_5 (by decide) ?_
    refine x_aloadZ dX1_tryGiveRoute_7 rfl ?_
    refine x_ifnullZ (tgt := 30) dX1_tryGiveRoute_9 (by decide) ?_
    refine x_iconst (v := nI 0) dX1_tryGiveRoute_30 (by decide) ?_
    refine x_iret dX1_tryGiveRoute_31 rfl (by first | rfl | assumption) ?_
    refine h0 ?_
    rintro ⟨j9, x9, y9, z9, q1, q2, q3, q4, q5, q6, q7⟩
    first
      | exact hn j9 q1 q2
      | (have e9 : j9 = j := (nI_eq (by omega) (by omega)).mp (q2.symm.trans hb9)
         subst e9
         first
           | (simp (disch := omega) only [nI_z] at c17; exact c17 q3)
           | exact p24 (okR_N.mpr ⟨x9, y9, z9, q5, q6, q7, q4⟩))

