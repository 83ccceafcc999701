/-! a depot: becoming like another, new, changed *)-/
theorem s_becomeLike {G : GT} {C : AH} {Q : QT} {X : XT} {d : Nat} {ρ : Rw} {o : Nat} (hO : GO G) (hS : SkD C d) (hSo : SkD C o) (hV : VaD (gI C) o ρ) (hW : Wf ρ) (hdj : d + 13 ≤ o ∨ o + 13 ≤ d) (hq : ∀ f : Nat → Nat → Int32, VaD f d ρ → (∀ a : Nat, a < d ∨ d + 13 ≤ a → f a = gI C a) → Q none (wI C f)) : Mt G M_X1_becomeLike [.ref d, .ref o] C Q X := by
  refine Mt_of (by decide) (Nat.le_of_ble_eq_true rfl) ?_
  obtain ⟨hK, g0, g1, g2, g3, k1, n1, k2, n2, k3, n3, k4, n4, hbus⟩ := id hS
  obtain ⟨hKo, g0o, g1o, g2o, g3o, k1o, n1o, k2o, n2o, k3o, n3o, k4o, n4o, hbo⟩ := id hSo
  have w1 : ρ 1 ≤ 8 := hW.1
  have w2 : ρ 2 ≤ 5 := hW.2.1
  have s0 : fV C 3 d 0 = .ref (d + 1) := congrArg va_rf g0
  have s1 : fV C 3 d 1 = .ref (d + 2) := congrArg va_rf g1
  have s2 : fV C 3 d 2 = .ref (d + 3) := congrArg va_rf g2
  have s3 : fV C 3 d 3 = .ref (d + 4) := congrArg va_rf g3
  have t0 : fV C 3 o 0 = .ref (o + 1) := congrArg va_rf g0o
  have t1 : fV C 3 o 1 = .ref (o + 2) := congrArg va_rf g1o
  have t2 : fV C 3 o 2 = .ref (o + 3) := congrArg va_rf g2o
  have t3 : fV C 3 o 3 = .ref (o + 4) := congrArg va_rf g3o
  have done : ∀ f : Nat → Nat → Int32, (∀ c, c < ρ 1 → ∀ w, w < 7 → f (d + 5 + c) w = nI (ρ (bi c w))) → (∀ a : Nat, a < d ∨ d + 13 ≤ a → ∀ q, f a q = gI C a q) → Ex G M_X1_becomeLike Q X (mC M_X1_becomeLike) (mS M_X1_becomeLike) 31 [(0, .ref d), (1, .ref o), (2, .int (nI (ρ 1)))] [] (wI C f) := by
    intro f hvf hfr
    have hfo : ∀ a, (o ≤ a ∧ a < o + 13) → ∀ q, f a q = gI C a q := fun a ha q => hfr a (by omega) q
    refine x_aload_n dX1_becomeLike_31 rfl ?_
    refine x_get 3 hO dX1_becomeLike_32 f_X1_17 (by first | (simp only [gK_wI]; assumption) | assumption) ⟨by decide, by decide⟩ (v := .ref (o + 2)) t1 ?_
    refine x_iconst (v := nI 0) dX1_becomeLike_35 (by decide) ?_
    refine x_aload_n dX1_becomeLike_36 rfl ?_
    refine x_get 3 hO dX1_becomeLike_37 f_X1_17 (by first | (simp only [gK_wI]; assumption) | assumption) ⟨by decide, by decide⟩ (v := .ref (d + 2)) s1 ?_
    refine x_iconst (v := nI 0) dX1_becomeLike_40 (by decide) ?_
    refine x_iconst (v := nI 5) dX1_becomeLike_41 (by decide) ?_
    refine x_copyi (sj := 0) (dj := 0) (mj := 5) (N0 := 5) (N1 := 5) hO dX1_becomeLike_42 l_X1_31 nat_ac st_ac in_ac k2o k2 rfl rfl rfl n2o n2 (by decide) (by decide) (by decide) (by decide) ⟨by decide, by decide⟩ (Nat.le_of_ble_eq_true rfl) ?_
    refine x_aload_n dX1_becomeLike_45 rfl ?_
    refine x_get 3 hO dX1_becomeLike_46 f_X1_21 (by first | (simp only [gK_wI]; assumption) | assumption) ⟨by decide, by decide⟩ (v := .ref (o + 3)) t2 ?_
    refine x_iconst (v := nI 0) dX1_becomeLike_49 (by decide) ?_
    refine x_aload_n dX1_becomeLike_50 rfl ?_
    refine x_get 3 hO dX1_becomeLike_51 f_X1_21 (by first | (simp only [gK_wI]; assumption) | assumption) ⟨by decide, by decide⟩ (v := .ref (d + 3)) s2 ?_
    refine x_iconst (v := nI 0) dX1_becomeLike_54 (by decide) ?_
    refine x_iconst (v := nI 5) dX1_becomeLike_55 (by decide) ?_
    refine x_copyi (sj := 0) (dj := 0) (mj := 5) (N0 := 5) (N1 := 5) hO dX1_becomeLike_56 l_X1_31 nat_ac st_ac in_ac k3o k3 rfl rfl rfl n3o n3 (by decide) (by decide) (by decide) (by decide) ⟨by decide, by decide⟩ (Nat.le_of_ble_eq_true rfl) ?_
    simp only [wI_wI, gI_wI]
    refine x_aload_n dX1_becomeLike_59 rfl ?_
    refine x_get 3 hO dX1_becomeLike_60 f_X1_24 (by first | (simp only [gK_wI]; assumption) | assumption) ⟨by decide, by decide⟩ (v := .ref (o + 4)) t3 ?_
    refine x_iconst (v := nI 0) dX1_becomeLike_63 (by decide) ?_
    refine x_aload_n dX1_becomeLike_64 rfl ?_
    refine x_get 3 hO dX1_becomeLike_65 f_X1_24 (by first | (simp only [gK_wI]; assumption) | assumption) ⟨by decide, by decide⟩ (v := .ref (d + 4)) s3 ?_
    refine x_iconst (v := nI 0) dX1_becomeLike_68 (by decide) ?_
    refine x_bipush (v := nI 6) dX1_becomeLike_69 (by decide) ?_
    refine x_copyi (sj := 0) (dj := 0) (mj := 6) (N0 := 6) (N1 := 6) hO dX1_becomeLike_71 l_X1_31 nat_ac st_ac in_ac k4o k4 rfl rfl rfl n4o n4 (by decide) (by decide) (by decide) (by decide) ⟨by decide, by decide⟩ (Nat.le_of_ble_eq_true rfl) ?_
    simp only [wI_wI, gI_wI]
    refine x_aload_n dX1_becomeLike_74 rfl ?_
    refine x_aload_n dX1_becomeLike_75 rfl ?_
    refine x_get 3 hO dX1_becomeLike_76 f_X1_37 (by first | (simp only [gK_wI]; assumption) | assumption) ⟨by decide, by decide⟩ (v := .int _) rfl ?_
    refine x_putI 3 hO dX1_becomeLike_79 f_X1_37 (fw_3_4 _) (by first | (simp only [gK_wI]; assumption) | assumption) ⟨by decide, by decide⟩ rfl rfl ?_
    simp only [wI_wI, gI_wI]
    refine x_aload_n dX1_becomeLike_82 rfl ?_
    refine x_aload_n dX1_becomeLike_83 rfl ?_
    refine x_get 3 hO dX1_becomeLike_84 f_X1_41 (by first | (simp only [gK_wI]; assumption) | assumption) ⟨by decide, by decide⟩ (v := .int _) rfl ?_
    refine x_putI 3 hO dX1_becomeLike_87 f_X1_41 (fw_3_5 _) (by first | (simp only [gK_wI]; assumption) | assumption) ⟨by decide, by decide⟩ rfl rfl ?_
    simp only [wI_wI, gI_wI]
    refine x_aload_n dX1_becomeLike_90 rfl ?_
    refine x_aload_n dX1_becomeLike_91 rfl ?_
    refine x_get 3 hO dX1_becomeLike_92 f_X1_44 (by first | (simp only [gK_wI]; assumption) | assumption) ⟨by decide, by decide⟩ (v := .int _) rfl ?_
    refine x_putI 3 hO dX1_becomeLike_95 f_X1_44 (fw_3_6 _) (by first | (simp only [gK_wI]; assumption) | assumption) ⟨by decide, by decide⟩ rfl rfl ?_
    simp only [wI_wI, gI_wI]
    refine x_aload_n dX1_becomeLike_98 rfl ?_
    refine x_aload_n dX1_becomeLike_99 rfl ?_
    refine x_get 3 hO dX1_becomeLike_100 f_X1_47 (by first | (simp only [gK_wI]; assumption) | assumption) ⟨by decide, by decide⟩ (v := .int _) rfl ?_
    refine x_putI 3 hO dX1_becomeLike_103 f_X1_47 (fw_3_7 _) (by first | (simp only [gK_wI]; assumption) | assumption) ⟨by decide, by decide⟩ rfl rfl ?_
    simp only [wI_wI, gI_wI]
    refine x_aload_n dX1_becomeLike_106 rfl ?_
    refine x_aload_n dX1_becomeLike_107 rfl ?_
    refine x_get 3 hO dX1_becomeLike_108 f_X1_50 (by first | (simp only [gK_wI]; assumption) | assumption) ⟨by decide, by decide⟩ (v := .int _) rfl ?_
    refine x_putI 3 hO dX1_becomeLike_111 f_X1_50 (fw_3_8 _) (by first | (simp only [gK_wI]; assumption) | assumption) ⟨by decide, by decide⟩ rfl rfl ?_
    simp only [wI_wI, gI_wI]
    refine x_aload_n dX1_becomeLike_114 rfl ?_
    refine x_aload_n dX1_becomeLike_115 rfl ?_
    refine x_get 3 hO dX1_becomeLike_116 f_X1_53 (by first | (simp only [gK_wI]; assumption) | assumption) ⟨by decide, by decide⟩ (v := .int _) rfl ?_
    refine x_putI 3 hO dX1_becomeLike_119 f_X1_53 (fw_3_9 _) (by first | (simp only [gK_wI]; assumption) | assumption) ⟨by decide, by decide⟩ rfl rfl ?_
    simp only [wI_wI, gI_wI]
    refine x_aload_n dX1_becomeLike_122 rfl ?_
    refine x_aload_n dX1_becomeLike_123 rfl ?_
    refine x_get 3 hO dX1_becomeLike_124 f_X1_56 (by first | (simp only [gK_wI]; assumption) | assumption) ⟨by decide, by decide⟩ (v := .int _) rfl ?_
    refine x_putI 3 hO dX1_becomeLike_127 f_X1_56 (fw_3_10 _) (by first | (simp only [gK_wI]; assumption) | assumption) ⟨by decide, by decide⟩ rfl rfl ?_
    refine x_ret dX1_becomeLike_130 rfl ?_
    simp only [wI_wI, gI_wI]
    have hdo : ¬ (o = d) := by omega
    refine hq _ ?_ ?_
    · obtain ⟨v4, v5, v6, v7, v8, v9, v10, vs, vb, vp⟩ := hV
      refine ⟨?_, ?_, ?_, ?_, ?_, ?_, ?_, ?_, ?_, ?_⟩
      · rw [← v4, ← hfo o (by omega) 4]; simp [up2, hdo, show ¬ (o = d + 2) by omega, show ¬ (o = d + 3) by omega, show ¬ (o = d + 4) by omega]
      · rw [← v5, ← hfo o (by omega) 5]; simp [up2, hdo, show ¬ (o = d + 2) by omega, show ¬ (o = d + 3) by omega, show ¬ (o = d + 4) by omega]
      · rw [← v6, ← hfo o (by omega) 6]; simp [up2, hdo, show ¬ (o = d + 2) by omega, show ¬ (o = d + 3) by omega, show ¬ (o = d + 4) by omega]
      · rw [← v7, ← hfo o (by omega) 7]; simp [up2, hdo, show ¬ (o = d + 2) by omega, show ¬ (o = d + 3) by omega, show ¬ (o = d + 4) by omega]
      · rw [← v8, ← hfo o (by omega) 8]; simp [up2, hdo, show ¬ (o = d + 2) by omega, show ¬ (o = d + 3) by omega, show ¬ (o = d + 4) by omega]
      · rw [← v9, ← hfo o (by omega) 9]; simp [up2, hdo, show ¬ (o = d + 2) by omega, show ¬ (o = d + 3) by omega, show ¬ (o = d + 4) by omega]
      · rw [← v10, ← hfo o (by omega) 10]; simp [up2, hdo, show ¬ (o = d + 2) by omega, show ¬ (o = d + 3) by omega, show ¬ (o = d + 4) by omega]
      · intro k hk
        rw [← vs k hk, ← hfo (o + 4) (by omega) k]
        simp [up2, va_cpy, hk, show ¬ (d + 4 = d) by omega, show ¬ (o + 4 = d + 2) by omega, show ¬ (o + 4 = d + 3) by omega, show ¬ (o + 4 = d) by omega]
      · intro b hb w hw
        rw [← hvf b hb w hw]
        simp [up2, show ¬ (d + 5 + b = d) by omega, show ¬ (d + 5 + b = d + 2) by omega, show ¬ (d + 5 + b = d + 3) by omega, show ¬ (d + 5 + b = d + 4) by omega]
      · intro c hc
        have hc5 : c < 5 := by omega
        rw [← (vp c hc).1, ← (vp c hc).2, ← hfo (o + 2) (by omega) c, ← hfo (o + 3) (by omega) c]
        constructor
        · simp [up2, va_cpy, hc5, show ¬ (o + 2 = d) by omega, show ¬ (o + 2 = d + 2) by omega, show ¬ (o + 2 = d + 3) by omega, show ¬ (o + 2 = d + 4) by omega]
        · simp [up2, va_cpy, hc5, show ¬ (o + 3 = d) by omega, show ¬ (o + 3 = d + 2) by omega, show ¬ (o + 3 = d + 3) by omega, show ¬ (o + 3 = d + 4) by omega]
    · intro a ha
      funext q
      rw [← hfr a ha q]
      simp [up2, show ¬ (a = d) by omega, show ¬ (a = d + 2) by omega, show ¬ (a = d + 3) by omega, show ¬ (a = d + 4) by omega]
  have loop : ∀ (m b : Nat) (f : Nat → Nat → Int32), ρ 1 - b = m → b ≤ ρ 1 → (∀ c, c < b → ∀ w, w < 7 → f (d + 5 + c) w = nI (ρ (bi c w))) → (∀ a : Nat, a < d ∨ d + 13 ≤ a → ∀ q, f a q = gI C a q) → Ex G M_X1_becomeLike Q X (mC M_X1_becomeLike) (mS M_X1_becomeLike) 2 [(0, .ref d), (1, .ref o), (2, .int (nI b))] [] (wI C f) := by
    intro m
    induction m using Nat.strongRecOn with
    | _ m ih =>
    intro b f hm hb9 hvf hfr
    have hfo : ∀ a, (o ≤ a ∧ a < o + 13) → ∀ q, f a q = gI C a q := fun a ha q => hfr a (by omega) q
    refine x_iload_n dX1_becomeLike_2 rfl ?_
    refine x_aload_n dX1_becomeLike_3 rfl ?_
    refine x_get 3 hO dX1_becomeLike_4 f_X1_37 (by first | (simp only [gK_wI]; assumption) | assumption) ⟨by decide, by decide⟩ (v := .int (nI (ρ 1))) (congrArg Value.int ((hfo o (by omega) 4).trans hV.1)) ?_
    refine x_icmp_ge (tgt := 31) dX1_becomeLike_7 (by decide) (fun c7 => ?_) (fun c7 => ?_)
    · skip
      simp (disch := omega) only [nI_leI] at c7
      have : b = ρ 1 := by omega
      subst this
      exact done f hvf hfr
    · simp (disch := omega) only [nI_leI] at c7
      have hb8 : b < ρ 1 := by omega
      refine x_aload_n dX1_becomeLike_10 rfl ?_
      refine x_get 3 hO dX1_becomeLike_11 f_X1_11 (by first | (simp only [gK_wI]; assumption) | assumption) ⟨by decide, by decide⟩ (v := .ref (d + 1)) s0 ?_
      refine x_iload_n dX1_becomeLike_14 rfl ?_
      refine x_aald 25 _ _ hO dX1_becomeLike_15 (by first | (simp only [gK_wI]; assumption) | assumption) (by decide) rfl (by first | (simp only [gN_wI]; assumption) | assumption) (by omega) (by decide) ?_
      rw [show gR (wI C f) (d + 1) b = some (d + 5 + b) from (hbus b (by omega)).1]
      refine x_aload_n dX1_becomeLike_16 rfl ?_
      refine x_get 3 hO dX1_becomeLike_17 f_X1_11 (by first | (simp only [gK_wI]; assumption) | assumption) ⟨by decide, by decide⟩ (v := .ref (o + 1)) t0 ?_
      refine x_iload_n dX1_becomeLike_20 rfl ?_
      refine x_aald 25 _ _ hO dX1_becomeLike_21 (by first | (simp only [gK_wI]; assumption) | assumption) (by decide) rfl (by first | (simp only [gN_wI]; assumption) | assumption) (by omega) (by decide) ?_
      rw [show gR (wI C f) (o + 1) b = some (o + 5 + b) from (hbo b (by omega)).1]
      refine x_callV (As := [_]) 2 hO dX1_becomeLike_22 o_X0_becomeLike v_X0_becomeLike l_X1_59 ⟨by decide, by decide⟩ ((hbus b (by omega)).2) ⟨by decide, by decide⟩ rfl ⟨by decide, by decide⟩ rfl rfl (Nat.le_of_ble_eq_true rfl) (s_X0_becomeLike (h := d + 5 + b) (o := o + 5 + b) hO (hbus b (by omega)).2 (hbo b (by omega)).2 (by omega) ?_)
      dsimp only [Option.toList, List.cons_append, List.nil_append]
      refine x_iinc (v := nI 1) dX1_becomeLike_25 rfl (by decide) (by decide) ?_
      refine x_goto (tgt := 2) dX1_becomeLike_28 (by decide) ?_
      simp only [wI_wI, gI_wI, nI_add]
      refine x_ls [(0, .ref d), (1, .ref o), (2, .int (nI (b + 1)))] ⟨rfl, rfl, rfl, trivial⟩ ?_
      refine ih (m - 1) (by omega) (b + 1) _ (by omega) (by omega) ?_ ?_
      · intro c hc w hw
        by_cases e : c = b
        · subst e
          rw [if_pos ⟨rfl, hw⟩, hfo (o + 5 + c) (by omega) w]
          exact hV.2.2.2.2.2.2.2.2.1 c hb8 w hw
        · rw [if_neg (by omega)]
          exact hvf c (by omega) w hw
      · intro a ha q
        rw [if_neg (by omega)]
        exact hfr a ha q
  refine x_iconst (v := nI 0) dX1_becomeLike_0 (by decide) ?_
  refine x_istore_n dX1_becomeLike_1 (by decide) ?_
  refine x_ls [(0, .ref d), (1, .ref o), (2, .int (nI 0))] ⟨rfl, rfl, rfl, trivial⟩ ?_
  exact loop _ 0 (gI C) rfl (Nat.zero_le _) (fun c hc => absurd hc (Nat.not_lt_zero c)) (fun _ _ _ => rfl)

section XCE
variable {G : GT} {M : MI} {Q : QT} {X : XT} {k n pc : Nat} {ls : List (Nat × Value)} {st : List Value} {C : AH}
/-- int[] that lay there, into an int[] of ours -/
theorem x_copyiE {idx b0 a1 sj dj mj N0 N1 : Nat} {f : Nat → Int32} {sp dp m9 : Int32} {rest : List Value} (hO : GO G) (d : decode (mB M) pc = .ok (.invokestatic idx, 3)) (w1 : Cond.methodLink (mY M).cls idx arraycopyName ∈ TT) (w2 : Cond.native arraycopyName ∈ TT) (w3 : Cond.static arraycopyName ∈ TT) (w4 : Cond.initialized "java/lang/System" ∈ TT)
    (hX : eT G .int b0 N0 (fun j => .int (f j))) (hK1 : gK C a1 = 20) (e1 : sp = nI sj) (e2 : dp = nI dj) (e3 : m9 = nI mj) (hn1 : gN C a1 = N1) (h0 : sj + mj ≤ N0) (h1 : dj + mj ≤ N1) (hN0 : N0 < 2147483648) (hN1 : N1 < 2147483648) (hfit : ∀ i : Nat, i < mj → fits .int (.int (f (sj + i))) = true) (hf : 1 ≤ mF M ∧ 8 + (nativeFrameWords "java/lang/System" "arraycopy" 5 + 11) ≤ mO M) (hrest : (rest.map fun v => v.category).sum ≤ 8)
    (kk : Ex G M Q X k n (pc + 3) ls rest (wI C (fun b j => if b = a1 then va_cpy f (gI C a1) sj dj mj j else gI C b j))) : Ex G M Q X k n pc ls (.int m9 :: .int dp :: .ref a1 :: .int sp :: .ref b0 :: rest) C := by
  intro p l e R s m args below meth c Qf S E H locs cells slots lsA hr hL hc hs hv
  obtain ⟨-, hR, hx, hb, hml, hown, hW, -, -, -, -, hlow⟩ := id S
  have hts := hts_G (args := args) hO hW
  have hR1 : R.frames = mF M := by rw [hR]; rfl
  have hR2 : R.locals = mO M := by rw [hR]; rfl
  have hc1 := arr_cell hr hK1 (by omega)
  have hne : gK C a1 ≠ 0 := by omega
  have hge := (hr.2.2.2.1 a1 hne).1
  have s1 : sp.toNatClampNeg = sj := by rw [e1]; exact nI_clamp (by omega)
  have s2 : dp.toNatClampNeg = dj := by rw [e2]; exact nI_clamp (by omega)
  have s3 : m9.toNatClampNeg = mj := by rw [e3]; exact nI_clamp (by omega)
  have f1 : arrV (gA G 20) (gN C a1) (aV C 20 a1) = vp_cell (gA G 20) (N1, .inl (gI C a1)) := by rw [hn1]; rfl
  rw [f1] at hc1
  have hl : a1 < H.size := (Array.getElem?_eq_some_iff.mp hc1).1
  obtain ⟨scr, q1, q2, q3, q4, q5, q6, q7⟩ := (va_T.moved hW.alike hX).kept (kp_O hlow)
  have hc0 : H[b0]? = some scr := by rw [(S_O hr hL hlow).2.1 b0 (Array.getElem?_eq_some_iff.mp q1).1 q7]; exact q1
  have hk9 := va_KG hO hW
  obtain ⟨hs6, k0, hk0, cm0, hkk0⟩ := q2
  obtain ⟨-, k1, hk1, cm1, hkk1⟩ := (hk9.2 0 _ rfl).1 N1 (fun j => .int (gI C a1 j))
  have nn : ∀ z : Int32, ∀ j : Nat, j < 2147483648 → z = nI j → ¬ z < 0 ∧ z.toInt = (j : Int) := by
    intro z j hj hz
    subst hz
    exact ⟨nI_pos hj, nI_toInt hj⟩
  intro T hT X9
  obtain ⟨vm', X', step⟩ := X9.arraycopy hx hown (hts _ w1) (hts _ w2) (hts _ w3) (hts _ w4) (src := b0) (dst := a1) (cs := scr) (cd := vp_cell (gA G 20) (N1, .inl (gI C a1))) (srcPos := sp) (destPos := dp) (n := m9) (by rw [hT]; exact hc0) (by rw [hT]; exact hc1)
    hs6 (fun _ h => by cases h) q3 (fun h => by cases h) hk0 hk1 hkk0 hkk1 (by simp [refKind]) (nn sp sj (by omega) e1).1 (nn dp dj (by omega) e2).1 (nn m9 mj (by omega) e3).1
    (by rw [(nn sp sj (by omega) e1).2, (nn m9 mj (by omega) e3).2]; omega)
    (by rw [(nn dp dj (by omega) e2).2, (nn m9 mj (by omega) e3).2]; show ¬ _ > ((arrV (gA G 20) N1 (fun j => .int (gI C a1 j))).slots.size : Int); rw [arrV_size]; omega)
    (fun vm₁ _ i hi => by
      have e : scr.slots.getD (sp.toNatClampNeg + i) .null = .int (f (sp.toNatClampNeg + i)) := by
        rw [Array.getD_eq_getD_getElem?, q6 _ (by omega)]
        rfl
      refine ⟨?_, ?_⟩
      · rw [e, s1]; exact hfit i (by omega)
      · rw [e]; exact trivial)
    (g := F0 m pc lsA (.int m9 :: .int dp :: .ref a1 :: .int sp :: .ref b0 :: rest)) rfl (by show lsA.size = _; rw [hml]; exact hv.1) (rest := rest) rfl (by rw [hb]; exact d) (by omega) (by show 2 * 0 + _ + _ ≤ _; omega)
  have ec : copied scr (vp_cell (gA G 20) (N1, .inl (gI C a1))) sp dp m9 = vp_cell (gA G 20) (N1, .inl (va_cpy f (gI C a1) sp.toNatClampNeg dp.toNatClampNeg m9.toNatClampNeg)) := va_copiedX (fun z => .int z) scr (gA G 20) f (gI C a1) q6 (by omega)
  rw [ec] at X' step
  have hheap : ((T.setVm vm').setCell a1 (vp_cell (gA G 20) (N1, .inl (va_cpy f (gI C a1) sp.toNatClampNeg dp.toNatClampNeg m9.toNatClampNeg)))).heap = H.setIfInBounds a1 (vp_cell (gA G 20) (N1, .inl (va_cpy f (gI C a1) sp.toNatClampNeg dp.toNatClampNeg m9.toNatClampNeg))) := by rw [← hT]; rfl
  have oq : ∀ q : Nat, q ≠ a1 → (H.setIfInBounds a1 (vp_cell (gA G 20) (N1, .inl (va_cpy f (gI C a1) sp.toNatClampNeg dp.toNatClampNeg m9.toNatClampNeg))))[q]? = H[q]? := fun q hq => by simp [Array.getElem?_setIfInBounds, Ne.symm hq]
  obtain ⟨t, a1', b1⟩ := kk p l e R s m args below meth c Qf S E _ _ cells slots lsA (rep_one hr rfl rfl rfl (by simp) oq hne (fun b hb => funext fun j => if_neg hb) (fun _ _ => rfl) (fun _ _ => rfl) ⟨fun h => by omega, fun _ => by
      rw [hK1, gN_wI, hn1]
      rw [show (H.setIfInBounds a1 (vp_cell (gA G 20) (N1, .inl (va_cpy f (gI C a1) sp.toNatClampNeg dp.toNatClampNeg m9.toNatClampNeg))))[a1]? = some (vp_cell (gA G 20) (N1, .inl (va_cpy f (gI C a1) sp.toNatClampNeg dp.toNatClampNeg m9.toNatClampNeg))) by simp [Array.getElem?_setIfInBounds, hl], s1, s2, s3]
      refine congrArg some ?_
      show arrV (gA G 20) N1 (fun j => .int (va_cpy f (gI C a1) sj dj mj j)) = _
      refine congrArg (arrV (gA G 20) N1) (funext fun q => ?_)
      simp [aV, gI_wI]⟩ (fun j hj => by rw [hK1] at hj; cases hj)) (HL_app hL (by simp) (fun z hz => by
        obtain ⟨i, -, hz2⟩ := List.mem_map.mp hz
        rw [← hz2]
        exact hge)) hc hs hv _ hheap X'
  exact ⟨t, step t a1', b1⟩
end XCE

theorem s_becomeNew {G : GT} {C : AH} {Q : QT} {X : XT} {d : Nat} {sa va : Nat → Nat} (hO : GO G) (hX : GX G sa va) (hS : SkD C d) (hq : ∀ f : Nat → Nat → Int32, VaD f d new0 → (∀ a : Nat, a < d ∨ d + 13 ≤ a → f a = gI C a) → Q none (wI C f)) : Mt G M_X1_becomeNew [.ref d] C Q X := by
  refine Mt_of (by decide) (Nat.le_of_ble_eq_true rfl) ?_
  obtain ⟨hK, g0, g1, g2, g3, k1, n1, k2, n2, k3, n3, k4, n4, hbus⟩ := id hS
  have s3 : fV C 3 d 3 = .ref (d + 4) := congrArg va_rf g3
  obtain ⟨af, hst0, hF⟩ := hX.2.2.2.2.2.1
  refine x_getsN hO hst0 dX1_becomeNew_0 (fn_X1_28 hO) ?_
  refine x_iconst (v := nI 0) dX1_becomeNew_3 (by decide) ?_
  refine x_aload_n dX1_becomeNew_4 rfl ?_
  refine x_get 3 hO dX1_becomeNew_5 f_X1_24 (by first | (simp only [gK_wI]; assumption) | assumption) ⟨by decide, by decide⟩ (v := .ref (d + 4)) s3 ?_
  refine x_iconst (v := nI 0) dX1_becomeNew_8 (by decide) ?_
  refine x_bipush (v := nI 6) dX1_becomeNew_9 (by decide) ?_
  refine x_copyiE (sj := 0) (dj := 0) (mj := 6) (N0 := 6) (N1 := 6) (f := fun j => nI (fiN j)) hO dX1_becomeNew_11 l_X1_31 nat_ac st_ac in_ac hF k4 rfl rfl rfl n4 (by decide) (by decide) (by decide) (by decide) (fun _ _ => rfl) ⟨by decide, by decide⟩ (Nat.le_of_ble_eq_true rfl) ?_
  try simp only [wI_wI, gI_wI]
  refine x_aload_n dX1_becomeNew_14 rfl ?_
  refine x_iconst (v := nI 0) dX1_becomeNew_15 (by decide) ?_
  refine x_putI 3 hO dX1_becomeNew_16 f_X1_37 (fw_3_4 _) (by first | (simp only [gK_wI]; assumption) | assumption) ⟨by decide, by decide⟩ rfl rfl ?_
  refine x_aload_n dX1_becomeNew_19 rfl ?_
  refine x_iconst (v := nI 0) dX1_becomeNew_20 (by decide) ?_
  refine x_putI 3 hO dX1_becomeNew_21 f_X1_41 (fw_3_5 _) (by first | (simp only [gK_wI]; assumption) | assumption) ⟨by decide, by decide⟩ rfl rfl ?_
  simp only [wI_wI, gI_wI]
  refine x_aload_n dX1_becomeNew_24 rfl ?_
  refine x_iconst (v := nI 0) dX1_becomeNew_25 (by decide) ?_
  refine x_putI 3 hO dX1_becomeNew_26 f_X1_44 (fw_3_6 _) (by first | (simp only [gK_wI]; assumption) | assumption) ⟨by decide, by decide⟩ rfl rfl ?_
  refine x_aload_n dX1_becomeNew_29 rfl ?_
  refine x_iconst (v := nI 0) dX1_becomeNew_30 (by decide) ?_
  refine x_putI 3 hO dX1_becomeNew_31 f_X1_47 (fw_3_7 _) (by first | (simp only [gK_wI]; assumption) | assumption) ⟨by decide, by decide⟩ rfl rfl ?_
  simp only [wI_wI, gI_wI]
  refine x_aload_n dX1_becomeNew_34 rfl ?_
  refine x_iconst (v := nI 0) dX1_becomeNew_35 (by decide) ?_
  refine x_putI 3 hO dX1_becomeNew_36 f_X1_50 (fw_3_8 _) (by first | (simp only [gK_wI]; assumption) | assumption) ⟨by decide, by decide⟩ rfl rfl ?_
  refine x_aload_n dX1_becomeNew_39 rfl ?_
  refine x_iconst (v := nI 0) dX1_becomeNew_40 (by decide) ?_
  refine x_putI 3 hO dX1_becomeNew_41 f_X1_53 (fw_3_9 _) (by first | (simp only [gK_wI]; assumption) | assumption) ⟨by decide, by decide⟩ rfl rfl ?_
  simp only [wI_wI, gI_wI]
  refine x_aload_n dX1_becomeNew_44 rfl ?_
  refine x_iconst (v := nI 0) dX1_becomeNew_45 (by decide) ?_
  refine x_putI 3 hO dX1_becomeNew_46 f_X1_56 (fw_3_10 _) (by first | (simp only [gK_wI]; assumption) | assumption) ⟨by decide, by decide⟩ rfl rfl ?_
  refine x_ret dX1_becomeNew_49 rfl ?_
  simp only [wI_wI, gI_wI]
  refine hq _ ?_ ?_
  · refine ⟨?_, ?_, ?_, ?_, ?_, ?_, ?_, ?_, fun b hb => ?_, fun c hc => ?_⟩
    any_goals (simp [up2, new0]; done)
    · intro k hk
      simp only [up2, show ¬ (d + 4 = d) by omega, false_and, if_false, if_true, va_cpy, Nat.zero_le, true_and, Nat.zero_add, hk, Nat.sub_zero]
      match k, hk with
      | 0, _ => rfl
      | 1, _ => rfl
      | 2, _ => rfl
      | 3, _ => rfl
      | 4, _ => rfl
      | 5, _ => rfl
    · exact absurd hb (Nat.not_lt_zero b)
    · exact absurd hc (Nat.not_lt_zero c)
  · intro a ha
    funext q
    simp [up2, show ¬ (a = d) by omega, show ¬ (a = d + 4) by omega]

