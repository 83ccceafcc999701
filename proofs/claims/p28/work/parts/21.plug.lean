/-! a depot: the line and the plugs *)-/
def PlD (f : Nat → Nat → Int32) (d : Nat) (ρ : Rw) (s : LT) : Prop := ∀ b, b < ρ 1 → f (d + 5 + b) 7 = enc (rk ρ s.1 b) ∧ f (d + 5 + b) 8 = enc (s.2.2.2.1 b) ∧ f (d + 5 + b) 9 = nI (s.2.2.1 b)
theorem ordL_lt {ρ : Rw} {k : Nat} (h : k < ρ 2) : (ordL ρ).getD k 0 < ρ 2 := by
  have hm : ∀ c, c ∈ ordL ρ → c < ρ 2 := by
    intro c hc
    obtain ⟨i, -, hi⟩ := List.mem_flatMap.mp hc
    exact List.mem_range.mp (List.mem_filter.mp hi).1
  rw [List.getD_eq_getElem?_getD]
  cases e : (ordL ρ)[k]? with
  | none => show 0 < ρ 2; omega
  | some c => exact hm c (List.mem_of_getElem? e)
theorem lay_stop {ρ : Rw} {k : Nat} (h : nxt ρ (layS ρ k).1 = none) (j : Nat) : layS ρ (k + j) = layS ρ k := by
  induction j with
  | zero => rfl
  | succ j ih =>
    show layS ρ (k + j + 1) = _
    simp only [layS]
    rw [ih, h]
theorem rk_up {ρ : Rw} {lk : Nat → Nat} {b c : Nat} : rk ρ (va_up lk b 1) c = if c = b then none else rk ρ lk c := by
  by_cases e : c = b
  · subst e
    rw [if_pos rfl]
    unfold rk
    rw [if_neg]
    rintro ⟨q, -⟩
    rw [vu_s] at q
    cases q
  · rw [if_neg e]
    unfold rk
    rw [vu_n e]

theorem s_lineUp {G : GT} {C : AH} {Q : QT} {X : XT} {d : Nat} {ρ : Rw} (hO : GO G) (hS : SkD C d) (hV : VaD (gI C) d ρ) (hW : Wf ρ) (hb0 : ρ 0 < 1000000) (hq : ∀ f : Nat → Nat → Int32, VaD f d ρ → PlD f d ρ (layS ρ 0) → (∀ a : Nat, a < d ∨ d + 13 ≤ a → f a = gI C a) → Q none (wI C f)) : Mt G M_X1_lineUp [.ref d] C Q X := by
  refine Mt_of (by decide) (Nat.le_of_ble_eq_true rfl) ?_
  obtain ⟨hK, -, -, -, -, k1, n1, k2, n2, k3, n3, k4, n4, hbus⟩ := id hS
  have w1 : ρ 1 ≤ 8 := hW.1
  have loop : ∀ z : Int32, z = (if nite ρ then 1 else 0) → ∀ (m b : Nat) (f : Nat → Nat → Int32), ρ 1 - b = m → b ≤ ρ 1 → VaD f d ρ → (∀ c, c < b → f (d + 5 + c) 7 = enc (rk ρ (layS ρ 0).1 c) ∧ f (d + 5 + c) 8 = enc ((layS ρ 0).2.2.2.1 c) ∧ f (d + 5 + c) 9 = nI ((layS ρ 0).2.2.1 c)) → (∀ a : Nat, a < d ∨ d + 13 ≤ a → f a = gI C a) → Ex G M_X1_lineUp Q X (mC M_X1_lineUp) (mS M_X1_lineUp) 7 [(0, .ref d), (1, .int z), (2, .int (nI b))] [] (wI C f) := by
    intro z hz m
    induction m using Nat.strongRecOn with
    | _ m ih =>
    intro b f hm hb9 hVf hpl hfr
    obtain ⟨s0, s1, s2, s3, v4, v5, v6, v7, v8, v9, v10⟩ := SkD_f (C := wI C f) hS hVf
    refine x_iload_n dX1_lineUp_7 rfl ?_
    refine x_aload_n dX1_lineUp_8 rfl ?_
    refine x_get 3 hO dX1_lineUp_9 f_X1_37 (by assumption) ⟨by decide, by decide⟩ (v := .int (nI (ρ 1))) v4 ?_
    refine x_icmp_ge (tgt := 48) dX1_lineUp_12 (by decide) (fun c12 => ?_) (fun c12 => ?_)
    · skip
      refine x_ret dX1_lineUp_48 rfl ?_
      simp (disch := omega) only [nI_leI] at c12
      have : b = ρ 1 := by omega
      subst this
      exact hq f hVf hpl hfr
    · simp (disch := omega) only [nI_leI] at c12
      have hb8 : b < ρ 1 := by omega
      have kb : gK C (d + 5 + b) = 2 := (hbus b (by omega)).2
      refine x_aload_n dX1_lineUp_15 rfl ?_
      refine x_get 3 hO dX1_lineUp_16 f_X1_11 (by assumption) ⟨by decide, by decide⟩ (v := .ref (d + 1)) s0 ?_
      refine x_iload_n dX1_lineUp_19 rfl ?_
      refine x_aald 25 _ _ hO dX1_lineUp_20 (by assumption) (by decide) rfl (by assumption) (by omega) (by decide) ?_
      rw [show gR (wI C f) (d + 1) b = some (d + 5 + b) from (hbus b (by omega)).1]
      refine x_astore_n (x := d + 5 + b) dX1_lineUp_21 (by decide) ?_
      refine x_aload_n dX1_lineUp_22 rfl ?_
      refine x_aload_n dX1_lineUp_23 rfl ?_
      refine x_aload_n dX1_lineUp_24 rfl ?_
      refine x_iload_n dX1_lineUp_25 rfl ?_
      refine x_callV (As := [_, _]) 3 hO dX1_lineUp_26 o_X1_rankOf v_X1_rankOf l_X1_173 ⟨by decide, by decide⟩ (by assumption) ⟨by decide, by decide⟩ rfl ⟨by decide, by decide⟩ rfl rfl (Nat.le_of_ble_eq_true rfl) (s_rankOf (C := wI C f) hO hS hVf hW hb0 hb8 hz ?_)
      dsimp only [Option.toList, List.cons_append, List.nil_append]
      refine x_putI 2 hO dX1_lineUp_29 f_X1_177 (fw_2_7 _) (by assumption) ⟨by decide, by decide⟩ rfl rfl ?_
      refine x_aload_n dX1_lineUp_32 rfl ?_
      refine x_iconst (v := (-1)) dX1_lineUp_33 (by decide) ?_
      refine x_putI 2 hO dX1_lineUp_34 f_X1_180 (fw_2_8 _) (by assumption) ⟨by decide, by decide⟩ rfl rfl ?_
      refine x_aload_n dX1_lineUp_37 rfl ?_
      refine x_iconst (v := nI 0) dX1_lineUp_38 (by decide) ?_
      refine x_putI 2 hO dX1_lineUp_39 f_X1_183 (fw_2_9 _) (by assumption) ⟨by decide, by decide⟩ rfl rfl ?_
      refine x_iinc (v := nI 1) dX1_lineUp_42 rfl (by decide) (by decide) ?_
      refine x_goto (tgt := 7) dX1_lineUp_45 (by decide) ?_
      simp only [wI_wI, gI_wI, nI_add]
      refine x_ls [(0, .ref d), (1, .int z), (2, .int (nI (b + 1)))] ⟨rfl, rfl, rfl, trivial⟩ ?_
      refine ih (m - 1) (by omega) (b + 1) _ (by omega) (by omega) ?_ ?_ ?_
      · refine VaD_same hVf ?_ ?_ ?_ ?_ ?_
        · funext q; simp [up2, show ¬ (d = d + 5 + b) by omega]
        · funext q; simp [up2, show ¬ (d + 2 = d + 5 + b) by omega]
        · funext q; simp [up2, show ¬ (d + 3 = d + 5 + b) by omega]
        · funext q; simp [up2, show ¬ (d + 4 = d + 5 + b) by omega]
        · intro c hc w hw
          simp [up2, show w ≠ 7 by omega, show w ≠ 8 by omega, show w ≠ 9 by omega]
      · intro c hc
        by_cases e : c = b
        · subst e
          simp [up2, layS, enc, nI_0]
        · have hpc := hpl c (by omega)
          simp [up2, e, hpc]
      · intro a ha
        funext q
        simp [up2, show ¬ (a = d + 5 + b) by omega, hfr a ha]
  refine x_aload_n dX1_lineUp_0 rfl ?_
  refine x_callV (As := []) 3 hO dX1_lineUp_1 o_X1_isNight v_X1_isNight l_X1_170 ⟨by decide, by decide⟩ (by assumption) ⟨by decide, by decide⟩ rfl ⟨by decide, by decide⟩ rfl rfl (Nat.le_of_ble_eq_true rfl) (s_isNight hO hS hV hW hb0 (fun r1 hr1 => ?_))
  dsimp only [Option.toList, List.cons_append, List.nil_append]
  refine x_istore_n dX1_lineUp_4 (by decide) ?_
  refine x_iconst (v := nI 0) dX1_lineUp_5 (by decide) ?_
  refine x_istore_n dX1_lineUp_6 (by decide) ?_
  refine x_ls [(0, .ref d), (1, .int r1), (2, .int (nI 0))] ⟨rfl, rfl, rfl, trivial⟩ ?_
  exact loop _ hr1 _ 0 (gI C) rfl (Nat.zero_le _) hV (fun c hc => absurd hc (Nat.not_lt_zero c)) (fun _ _ => rfl)

theorem s_plugIn {G : GT} {C : AH} {Q : QT} {X : XT} {d : Nat} {ρ : Rw} (hO : GO G) (hS : SkD C d) (hV : VaD (gI C) d ρ) (hW : Wf ρ) (hpl0 : PlD (gI C) d ρ (layS ρ 0)) (hq : ∀ f : Nat → Nat → Int32, VaD f d ρ → PlD f d ρ (lay ρ) → (∀ a : Nat, a < d ∨ d + 13 ≤ a → f a = gI C a) → Q none (wI C f)) : Mt G M_X1_plugIn [.ref d] C Q X := by
  refine Mt_of (by decide) (Nat.le_of_ble_eq_true rfl) ?_
  obtain ⟨s0, s1, s2, s3, v4, v5, v6, v7, v8, v9, v10⟩ := SkD_f hS hV
  obtain ⟨hK, -, -, -, -, k1, n1, k2, n2, k3, n3, k4, n4, hbus⟩ := id hS
  obtain ⟨w1, w2, w7, w8, w9, w10, w11, w11', w12, wB, wP⟩ := id hW
  have vb := hV.2.2.2.2.2.2.2.2.1
  have loop : ∀ (m k : Nat) (f : Nat → Nat → Int32), ρ 2 - k = m → k ≤ ρ 2 → VaD f d ρ → PlD f d ρ (layS ρ k) → (∀ a : Nat, a < d ∨ d + 13 ≤ a → f a = gI C a) → Ex G M_X1_plugIn Q X (mC M_X1_plugIn) (mS M_X1_plugIn) 9 [(0, .ref d), (1, .int (nI (layS ρ k).2.1)), (2, .int (nI k))] [] (wI C f) := by
    intro m
    induction m using Nat.strongRecOn with
    | _ m ih =>
    intro k f hm hk9 hVf hpl hfr
    obtain ⟨s0, s1, s2, s3, v4, v5, v6, v7, v8, v9, v10⟩ := SkD_f (C := wI C f) hS hVf
    have hli := (LI_lay (ρ := ρ) w1 k).2.1
    refine x_iload_n dX1_plugIn_9 rfl ?_
    refine x_aload_n dX1_plugIn_10 rfl ?_
    refine x_get 3 hO dX1_plugIn_11 f_X1_41 (by assumption) ⟨by decide, by decide⟩ (v := .int (nI (ρ 2))) v5 ?_
    refine x_icmp_ge (tgt := 100) dX1_plugIn_14 (by decide) (fun c14 => ?_) (fun c14 => ?_)
    · skip
      refine x_ret dX1_plugIn_100 rfl ?_
      simp (disch := omega) only [nI_leI] at c14
      have : k = ρ 2 := by omega
      subst this
      exact hq f hVf hpl hfr
    · simp (disch := omega) only [nI_leI] at c14
      have hk : k < ρ 2 := by omega
      refine x_aload_n dX1_plugIn_17 rfl ?_
      refine x_callV (As := []) 3 hO dX1_plugIn_18 o_X1_firstInLine v_X1_firstInLine l_X1_186 ⟨by decide, by decide⟩ (by assumption) ⟨by decide, by decide⟩ rfl ⟨by decide, by decide⟩ rfl rfl (Nat.le_of_ble_eq_true rfl) (s_firstInLine (C := wI C f) hO hS hVf hW (fun b hb => (hpl b hb).1) ?_)
      dsimp only [Option.toList, List.cons_append, List.nil_append]
      refine x_istore_n dX1_plugIn_21 (by decide) ?_
      refine x_iload_n dX1_plugIn_22 rfl ?_
      refine x_iconst (v := (-1)) dX1_plugIn_23 (by decide) ?_
      refine x_icmp_ne (tgt := 28) dX1_plugIn_24 (by decide) (fun c24 => ?_) (fun c24 => ?_)
      · cases hnx : nxt ρ (layS ρ k).1 with
        | none => exact absurd (by rw [hnx]; rfl) c24
        | some b =>
        obtain ⟨hb8, hlk, hb6, hbc⟩ := nxt_in hnx
        obtain ⟨b0, b0', b1, b2, b2', b3, b4, b34, b6⟩ := wB b hb8
        have kb : gK C (d + 5 + b) = 2 := (hbus b (by omega)).2
        have hol := ordL_lt hk
        have hpw := wP _ hol
        rw [show enc (some b) = nI b from rfl]
        refine x_aload_n dX1_plugIn_28 rfl ?_
        refine x_get 3 hO dX1_plugIn_29 f_X1_11 (by assumption) ⟨by decide, by decide⟩ (v := .ref (d + 1)) s0 ?_
        refine x_iload_n dX1_plugIn_32 rfl ?_
        refine x_aald 25 _ _ hO dX1_plugIn_33 (by assumption) (by decide) rfl (by assumption) (by omega) (by decide) ?_
        rw [show gR (wI C f) (d + 1) b = some (d + 5 + b) from (hbus b (by omega)).1]
        refine x_astore (x := d + 5 + b) dX1_plugIn_34 (by decide) ?_
        refine x_aload dX1_plugIn_36 rfl ?_
        refine x_iconst (v := (-1)) dX1_plugIn_38 (by decide) ?_
        refine x_putI 2 hO dX1_plugIn_39 f_X1_177 (fw_2_7 _) (by assumption) ⟨by decide, by decide⟩ rfl rfl ?_
        refine x_aload dX1_plugIn_42 rfl ?_
        refine x_aload_n dX1_plugIn_44 rfl ?_
        refine x_get 3 hO dX1_plugIn_45 f_X1_21 (by assumption) ⟨by decide, by decide⟩ (v := .ref (d + 3)) s2 ?_
        refine x_iload_n dX1_plugIn_48 rfl ?_
        refine x_iald _ _ hO dX1_plugIn_49 (by assumption) rfl (by assumption) (by omega) (by decide) ?_
        rw [show gI (wI (wI C f) (up2 (gI (wI C f)) (d + 5 + b) 7 (-1))) (d + 3) k = nI ((ordL ρ).getD k 0) from by rw [gI_wI, up2_n (by omega)]; exact (hVf.2.2.2.2.2.2.2.2.2 k hk).2]
        refine x_putI 2 hO dX1_plugIn_50 f_X1_180 (fw_2_8 _) (by assumption) ⟨by decide, by decide⟩ rfl rfl ?_
        simp only [wI_wI, gI_wI]
        have hV2 : VaD (up2 (up2 f (d + 5 + b) 7 (-1)) (d + 5 + b) 8 (nI ((ordL ρ).getD k 0))) d ρ := by
          refine VaD_same hVf ?_ ?_ ?_ ?_ ?_
          · funext q; simp [up2, show ¬ (d = d + 5 + b) by omega]
          · funext q; simp [up2, show ¬ (d + 2 = d + 5 + b) by omega]
          · funext q; simp [up2, show ¬ (d + 3 = d + 5 + b) by omega]
          · funext q; simp [up2, show ¬ (d + 4 = d + 5 + b) by omega]
          · intro c hc w hw
            simp [up2, show w ≠ 7 by omega, show w ≠ 8 by omega]
        have hu : ∀ q j, up2 (up2 f (d + 5 + b) 7 (-1)) (d + 5 + b) 8 (nI ((ordL ρ).getD k 0)) q j = if q = d + 5 + b ∧ j = 8 then nI ((ordL ρ).getD k 0) else if q = d + 5 + b ∧ j = 7 then -1 else f q j := fun q j => rfl
        generalize up2 (up2 f (d + 5 + b) 7 (-1)) (d + 5 + b) 8 (nI ((ordL ρ).getD k 0)) = f2 at hV2 hu ⊢
        obtain ⟨s0, s1, s2, s3, v4, v5, v6, v7, v8, v9, v10⟩ := SkD_f (C := wI C f2) hS hV2
        have vb2 := hV2.2.2.2.2.2.2.2.2.1
        refine x_aload dX1_plugIn_53 rfl ?_
        refine x_iload_n dX1_plugIn_55 rfl ?_
        refine x_aload_n dX1_plugIn_56 rfl ?_
        refine x_aload_n dX1_plugIn_57 rfl ?_
        refine x_get 3 hO dX1_plugIn_58 f_X1_21 (by assumption) ⟨by decide, by decide⟩ (v := .ref (d + 3)) s2 ?_
        refine x_iload_n dX1_plugIn_61 rfl ?_
        refine x_iald _ _ hO dX1_plugIn_62 (by assumption) rfl (by assumption) (by omega) (by decide) ?_
        rw [show gI (wI C f2) (d + 3) k = nI ((ordL ρ).getD k 0) from (hV2.2.2.2.2.2.2.2.2.2 k hk).2]
        refine x_callV (As := [_]) 3 hO dX1_plugIn_63 o_X1_powerOf v_X1_powerOf l_X1_117 ⟨by decide, by decide⟩ (by assumption) ⟨by decide, by decide⟩ rfl ⟨by decide, by decide⟩ rfl rfl (Nat.le_of_ble_eq_true rfl) (s_powerOf (C := wI C f2) hO hS hV2 hW hol ?_)
        dsimp only [Option.toList, List.cons_append, List.nil_append]
        refine x_aload dX1_plugIn_66 rfl ?_
        refine x_get 2 hO dX1_plugIn_68 f_X1_189 (by assumption) ⟨by decide, by decide⟩ (v := .int (nI (ρ (bi b 0)))) (congrArg Value.int (vb2 b hb8 0 (by decide))) ?_
        refine x_aload dX1_plugIn_71 rfl ?_
        refine x_get 2 hO dX1_plugIn_73 f_X1_79 (by assumption) ⟨by decide, by decide⟩ (v := .int (nI (ρ (bi b 1)))) (congrArg Value.int (vb2 b hb8 1 (by decide))) ?_
        refine x_isub dX1_plugIn_76 ?_
        refine x_mmin hO dX1_plugIn_77 (by rw [← min_name]; exact l_X1_192) min_s math_i min_c ⟨by decide, by decide⟩ (Nat.le_of_ble_eq_true rfl) ?_
        rw [pk_sub b1]
        have e9 : (if nI (ρ (bi b 0) - ρ (bi b 1)) < nI (ρ (69 + (ordL ρ).getD k 0)) then nI (ρ (bi b 0) - ρ (bi b 1)) else nI (ρ (69 + (ordL ρ).getD k 0))) = nI (if ρ (bi b 0) - ρ (bi b 1) < ρ (69 + (ordL ρ).getD k 0) then ρ (bi b 0) - ρ (bi b 1) else ρ (69 + (ordL ρ).getD k 0)) := by
          simp (disch := omega) only [nI_ltI]
          exact (apply_ite nI _ _ _).symm
        rw [e9]
        refine x_mmin hO dX1_plugIn_80 (by rw [← min_name]; exact l_X1_192) min_s math_i min_c ⟨by decide, by decide⟩ (Nat.le_of_ble_eq_true rfl) ?_
        have e10 : (if nI (if ρ (bi b 0) - ρ (bi b 1) < ρ (69 + (ordL ρ).getD k 0) then ρ (bi b 0) - ρ (bi b 1) else ρ (69 + (ordL ρ).getD k 0)) < nI (layS ρ k).2.1 then nI (if ρ (bi b 0) - ρ (bi b 1) < ρ (69 + (ordL ρ).getD k 0) then ρ (bi b 0) - ρ (bi b 1) else ρ (69 + (ordL ρ).getD k 0)) else nI (layS ρ k).2.1) = nI (unt ρ (layS ρ k).2.1 b ((ordL ρ).getD k 0)) := by
          have q : (if ρ (bi b 0) - ρ (bi b 1) < ρ (69 + (ordL ρ).getD k 0) then ρ (bi b 0) - ρ (bi b 1) else ρ (69 + (ordL ρ).getD k 0)) < 1000 := by split <;> omega
          rw [← apply_ite nI]
          refine congrArg nI ?_
          unfold unt
          generalize (if ρ (bi b 0) - ρ (bi b 1) < ρ (69 + (ordL ρ).getD k 0) then ρ (bi b 0) - ρ (bi b 1) else ρ (69 + (ordL ρ).getD k 0)) = w at q ⊢
          simp (disch := omega) only [nI_ltI]
          split <;> split <;> omega
        rw [e10]
        refine x_putI 2 hO dX1_plugIn_83 f_X1_183 (fw_2_9 _) (by assumption) ⟨by decide, by decide⟩ rfl rfl ?_
        refine x_iload_n dX1_plugIn_86 rfl ?_
        refine x_aload dX1_plugIn_87 rfl ?_
        refine x_get 2 hO dX1_plugIn_89 f_X1_183 (by assumption) ⟨by decide, by decide⟩ (v := .int _) rfl ?_
        refine x_isub dX1_plugIn_92 ?_
        refine x_istore_n dX1_plugIn_93 (by decide) ?_
        refine x_iinc (v := nI 1) dX1_plugIn_94 rfl (by decide) (by decide) ?_
        refine x_goto (tgt := 9) dX1_plugIn_97 (by decide) ?_
        simp only [wI_wI, gI_wI, nI_add, up2_s]
        have hun := unt_le (ρ := ρ) (left := (layS ρ k).2.1) (b := b) (c := (ordL ρ).getD k 0)
        rw [pk_sub hun.1]
        have eS : layS ρ (k + 1) = (va_up (layS ρ k).1 b 1, (layS ρ k).2.1 - unt ρ (layS ρ k).2.1 b ((ordL ρ).getD k 0), va_up (layS ρ k).2.2.1 b (unt ρ (layS ρ k).2.1 b ((ordL ρ).getD k 0)), va_up (layS ρ k).2.2.2.1 b (some ((ordL ρ).getD k 0)), va_up (layS ρ k).2.2.2.2 ((ordL ρ).getD k 0) (some b)) := by
          simp only [layS]
          rw [hnx]
        refine x_ls [(0, .ref d), (1, .int (nI (layS ρ (k + 1)).2.1)), (2, .int (nI (k + 1)))] ⟨rfl, by rw [eS]; rfl, rfl, trivial⟩ ?_
        refine ih (m - 1) (by omega) (k + 1) _ (by omega) (by omega) ?_ ?_ ?_
        · refine VaD_same hV2 ?_ ?_ ?_ ?_ ?_
          · funext q; simp [up2, show ¬ (d = d + 5 + b) by omega]
          · funext q; simp [up2, show ¬ (d + 2 = d + 5 + b) by omega]
          · funext q; simp [up2, show ¬ (d + 3 = d + 5 + b) by omega]
          · funext q; simp [up2, show ¬ (d + 4 = d + 5 + b) by omega]
          · intro c hc w hw
            simp [up2, show w ≠ 9 by omega]
        · rw [eS]
          intro c hc
          dsimp only
          rw [rk_up]
          by_cases e : c = b
          · subst e
            rw [if_pos rfl, vu_s, vu_s]
            refine ⟨?_, ?_, ?_⟩
            · rw [up2_n (by omega), hu]; simp [enc]
            · rw [up2_n (by omega), hu]; simp [enc]
            · rw [up2_s]
          · rw [if_neg e, vu_n e, vu_n e]
            have hne : ¬ (d + 5 + c = d + 5 + b) := by omega
            obtain ⟨p7, p8, p9⟩ := hpl c hc
            refine ⟨?_, ?_, ?_⟩
            · rw [up2_n (fun q => hne q.1), hu, if_neg (fun q => hne q.1), if_neg (fun q => hne q.1)]; exact p7
            · rw [up2_n (fun q => hne q.1), hu, if_neg (fun q => hne q.1), if_neg (fun q => hne q.1)]; exact p8
            · rw [up2_n (fun q => hne q.1), hu, if_neg (fun q => hne q.1), if_neg (fun q => hne q.1)]; exact p9
        · intro a ha
          funext q
          have hne : ¬ (a = d + 5 + b) := by omega
          rw [up2_n (fun q => hne q.1), hu, if_neg (fun q => hne q.1), if_neg (fun q => hne q.1), hfr a ha]
      · skip
        refine x_ret dX1_plugIn_27 rfl ?_
        have hn : nxt ρ (layS ρ k).1 = none := (enc_ne fun n hn => by have := (nxt_in hn).1; omega).mp c24
        refine hq f hVf ?_ hfr
        have e : lay ρ = layS ρ k := by
          have := lay_stop hn (ρ 2 - k)
          rw [show k + (ρ 2 - k) = ρ 2 by omega] at this
          exact this
        rw [e]
        exact hpl
  refine x_aload_n dX1_plugIn_0 rfl ?_
  refine x_get 3 hO dX1_plugIn_1 f_X1_24 (by assumption) ⟨by decide, by decide⟩ (v := .ref (d + 4)) s3 ?_
  refine x_iconst (v := nI 0) dX1_plugIn_4 (by decide) ?_
  refine x_iald _ _ hO dX1_plugIn_5 (by assumption) rfl (by assumption) (by omega) (by decide) ?_
  refine x_istore_n dX1_plugIn_6 (by decide) ?_
  refine x_iconst (v := nI 0) dX1_plugIn_7 (by decide) ?_
  refine x_istore_n dX1_plugIn_8 (by decide) ?_
  rw [show gI C (d + 4) 0 = nI (ρ 7) from hV.2.2.2.2.2.2.2.1 0 (by decide)]
  refine x_ls [(0, .ref d), (1, .int (nI (layS ρ 0).2.1)), (2, .int (nI 0))] ⟨rfl, rfl, rfl, trivial⟩ ?_
  exact loop _ 0 (gI C) rfl (Nat.zero_le _) hV hpl0 (fun _ _ => rfl)

