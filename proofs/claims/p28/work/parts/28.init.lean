/-! constructors of buses and depots *)-/
theorem ao_X0 {G : GT} (hO : GO G) : va_AO "DepotCharge$Bus" (gS G) := by
  obtain ⟨A, h⟩ := hO.1
  exact va_AO.of (h (Cond.arrayOver (.object "DepotCharge$Bus")) (tm 84 (by decide +kernel)))
theorem ao_X1 {G : GT} (hO : GO G) : va_AO "DepotCharge$Depot" (gS G) := by
  obtain ⟨A, h⟩ := hO.1
  exact va_AO.of (h (Cond.arrayOver (.object "DepotCharge$Depot")) (tm 189 (by decide +kernel)))
section WO
variable {C : AH} {κ n : Nat} {f : Nat → Nat → Int32} {r : Nat → Nat → Option Nat}
theorem gz_wO : gz (wO C κ n) = gz C + 1 := rfl
theorem gK_wO {a : Nat} : gK (wO C κ n) a = if a = gz C then κ else gK C a := rfl
theorem gN_wO {a : Nat} : gN (wO C κ n) a = if a = gz C then n else gN C a := rfl
theorem gI_wO {a k : Nat} : gI (wO C κ n) a k = if a = gz C then 0 else gI C a k := rfl
theorem gR_wO {a k : Nat} : gR (wO C κ n) a k = if a = gz C then none else gR C a k := rfl
theorem gJ_wO {a k : Nat} : gJ (wO C κ n) a k = if a = gz C then 0 else gJ C a k := rfl
theorem gz_wR : gz (wR C r) = gz C := rfl
theorem gK_wR : gK (wR C r) = gK C := rfl
theorem gN_wR : gN (wR C r) = gN C := rfl
theorem gI_wR : gI (wR C r) = gI C := rfl
theorem gR_wR : gR (wR C r) = r := rfl
theorem gJ_wR : gJ (wR C r) = gJ C := rfl
theorem up2_if {α : Type} {g : Nat → Nat → α} {a k b j : Nat} {v : α} : up2 g a k v b j = if b = a ∧ j = k then v else g b j := rfl
end WO
/-- below d nothing has changed -/
def Ag (C C' : AH) (d : Nat) : Prop := ∀ a, a < d → gK C' a = gK C a ∧ gN C' a = gN C a ∧ (∀ j, gI C' a j = gI C a j) ∧ (∀ j, gR C' a j = gR C a j) ∧ ∀ j, gJ C' a j = gJ C a j
theorem Ag_refl {C : AH} {d : Nat} : Ag C C d := fun _ _ => ⟨rfl, rfl, fun _ => rfl, fun _ => rfl, fun _ => rfl⟩
theorem Ag_trans {A B C : AH} {d e : Nat} (h : Ag A B d) (h2 : Ag B C e) (hd : d ≤ e) : Ag A C d := fun a ha => by
  obtain ⟨a1, a2, a3, a4, a5⟩ := h a ha
  obtain ⟨b1, b2, b3, b4, b5⟩ := h2 a (by omega)
  exact ⟨b1.trans a1, b2.trans a2, fun j => (b3 j).trans (a3 j), fun j => (b4 j).trans (a4 j), fun j => (b5 j).trans (a5 j)⟩

theorem s_X0_init {G : GT} {C : AH} {Q : QT} {X : XT} {h : Nat} (hO : GO G) (hK : gK C h = 2) (hq : Q none (wI C (up2 (up2 (gI C) h 7 (-1)) h 8 (-1)))) : Mt G M_X0_init [.ref h] C Q X := by
  refine Mt_of (by decide) (Nat.le_of_ble_eq_true rfl) ?_
  refine x_aload_n dX0_init_0 rfl ?_
  refine x_objI hO dX0_init_1 l_X0_3 i_obj c_obj ⟨by decide, by decide⟩ (Nat.le_of_ble_eq_true rfl) ?_
  refine x_aload_n dX0_init_4 rfl ?_
  refine x_iconst (v := (-1)) dX0_init_5 (by decide) ?_
  refine x_putI 2 hO dX0_init_6 f_X0_9 (fw_2_7 _) (by first | (simp only [gK_wI]; assumption) | assumption) ⟨by decide, by decide⟩ rfl rfl ?_
  refine x_aload_n dX0_init_9 rfl ?_
  refine x_iconst (v := (-1)) dX0_init_10 (by decide) ?_
  refine x_putI 2 hO dX0_init_11 f_X0_15 (fw_2_8 _) (by first | (simp only [gK_wI]; assumption) | assumption) ⟨by decide, by decide⟩ rfl rfl ?_
  refine x_ret dX0_init_14 rfl ?_
  exact hq

theorem s_X1_init {G : GT} {C : AH} {Q : QT} {X : XT} {d : Nat} {sa va : Nat → Nat} (hO : GO G) (hX : GX G sa va) (hz : gz C = d + 1) (hK : gK C d = 3) (h0 : ∀ j, gI C d j = 0) (hq : ∀ C' : AH, gz C' = d + 13 → SkD C' d → VaD (gI C') d new0 → Ag C C' d → Q none C') : Mt G M_X1_init [.ref d] C Q X := by
  refine Mt_of (by decide) (Nat.le_of_ble_eq_true rfl) ?_
  have loop : ∀ (m b k n : Nat) (C1 : AH), 8 - b = m → b ≤ 8 → 8 - b ≤ k → 80 - 10 * b ≤ n → (gz C1 = d + 5 + b ∧ gK C1 d = 3 ∧ gR C1 d 0 = some (d + 1) ∧ gR C1 d 1 = some (d + 2) ∧ gR C1 d 2 = some (d + 3) ∧ gR C1 d 3 = some (d + 4) ∧ gK C1 (d + 1) = 25 ∧ gN C1 (d + 1) = 8 ∧ gK C1 (d + 2) = 20 ∧ gN C1 (d + 2) = 5 ∧ gK C1 (d + 3) = 20 ∧ gN C1 (d + 3) = 5 ∧ gK C1 (d + 4) = 20 ∧ gN C1 (d + 4) = 6 ∧ (∀ i, i < b → gR C1 (d + 1) i = some (d + 5 + i) ∧ gK C1 (d + 5 + i) = 2) ∧ (∀ j, gI C1 d j = 0) ∧ Ag C C1 d) → Ex G M_X1_init Q X k n 37 [(0, .ref d), (1, .int (nI b))] [] C1 := by
    intro m
    induction m using Nat.strongRecOn with
    | _ m ih =>
    intro b k n C1 hm hb9 hk hn hI
    refine x_iload_n dX1_init_37 rfl ?_
    refine x_aload_n dX1_init_38 rfl ?_
    obtain ⟨i0, i1, i2, i3, i4, i5, i6, i7, i8, i9, i10, i11, i12, i13, i14, i15, i16⟩ := id hI
    refine x_get 3 hO dX1_init_39 f_X1_11 (by first | (simp only [gK_wI]; assumption) | assumption) ⟨by decide, by decide⟩ (v := .ref (d + 1)) (congrArg va_rf i2) ?_
    refine x_alen 25 _ hO dX1_init_42 (by first | (simp only [gK_wI]; assumption) | assumption) ⟨by decide, by decide⟩ (by first | (simp only [gN_wI]; assumption) | assumption) ?_
    refine x_icmp_ge (tgt := 65) dX1_init_43 (by decide) (fun c43 => ?_) (fun c43 => ?_)
    · simp (disch := omega) only [nI_leI] at c43
      have : b = 8 := by omega
      subst this
      obtain ⟨af, hst0, hF⟩ := hX.2.2.2.2.2.1
      refine x_getsN hO hst0 dX1_init_65 (fn_X1_28 hO) ?_
      refine x_iconst (v := nI 0) dX1_init_68 (by decide) ?_
      refine x_aload_n dX1_init_69 rfl ?_
      refine x_get 3 hO dX1_init_70 f_X1_24 (by first | (simp only [gK_wI]; assumption) | assumption) ⟨by decide, by decide⟩ (v := .ref (d + 4)) (congrArg va_rf i5) ?_
      refine x_iconst (v := nI 0) dX1_init_73 (by decide) ?_
      refine x_bipush (v := nI 6) dX1_init_74 (by decide) ?_
      refine x_copyiE (sj := 0) (dj := 0) (mj := 6) (N0 := 6) (N1 := 6) (f := fun j => nI (fiN j)) hO dX1_init_76 l_X1_31 nat_ac st_ac in_ac hF i12 rfl rfl rfl i13 (by decide) (by decide) (by decide) (by decide) (fun _ _ => rfl) ⟨by decide, by decide⟩ (Nat.le_of_ble_eq_true rfl) ?_
      refine x_ret dX1_init_79 rfl ?_
      refine hq _ ?_ ?_ ?_ ?_
      · exact i0
      · exact ⟨i1, i2, i3, i4, i5, i6, i7, i8, i9, i10, i11, i12, i13, fun b hb => i14 b hb⟩
      · refine ⟨?_, ?_, ?_, ?_, ?_, ?_, ?_, ?_, fun b hb => ?_, fun c hc => ?_⟩
        any_goals (simp [gI_wI, i15, new0, nI_0]; done)
        · intro k hk
          simp only [gI_wI, if_true, va_cpy, Nat.zero_le, true_and, Nat.zero_add, hk, Nat.sub_zero]
          match k, hk with
          | 0, _ => rfl
          | 1, _ => rfl
          | 2, _ => rfl
          | 3, _ => rfl
          | 4, _ => rfl
          | 5, _ => rfl
        · exact absurd hb (Nat.not_lt_zero b)
        · exact absurd hc (Nat.not_lt_zero c)
      · intro a ha
        obtain ⟨q1, q2, q3, q4, q5⟩ := i16 a ha
        simp [gz_wO, gz_wR, gz_wI, gK_wO, gK_wR, gK_wI, gN_wO, gN_wR, gN_wI, gI_wO, gI_wR, gI_wI, gR_wO, gR_wR, gR_wI, gJ_wO, gJ_wR, gJ_wI, up2, q1, q2, q3, q4, q5, show ¬ (a = d + 4) by omega]
    · simp (disch := omega) only [nI_leI] at c43
      refine x_aload_n dX1_init_46 rfl ?_
      refine x_get 3 hO dX1_init_47 f_X1_11 (by first | (simp only [gK_wI]; assumption) | assumption) ⟨by decide, by decide⟩ (v := .ref (d + 1)) (congrArg va_rf i2) ?_
      refine x_iload_n dX1_init_50 rfl ?_
      refine x_new 2 hO dX1_init_51 ⟨by decide, by decide⟩ rfl q_X1_9 in_X0 ini_X0 (by decide) (by omega) (by omega) ?_
      rw [i0]
      refine x_dup dX1_init_54 rfl ?_
      refine x_callIN (As := []) hO dX1_init_55 o_X0_init rfl rfl i_X0_init (n_X1_27 hO) ⟨by decide, by decide⟩ ⟨Nat.zero_le _, Nat.zero_le _⟩ rfl rfl (Nat.le_of_ble_eq_true rfl) (s_X0_init (h := d + 5 + b) hO (by simp [gz_wO, gz_wR, gz_wI, gK_wO, gK_wR, gK_wI, gN_wO, gN_wR, gN_wI, gI_wO, gI_wR, gI_wI, gR_wO, gR_wR, gR_wI, gJ_wO, gJ_wR, gJ_wI, up2, i0]) ?_)
      dsimp only [Option.toList, List.cons_append, List.nil_append]
      refine x_aast 25 b 8 hO dX1_init_58 (by simp [gz_wO, gz_wR, gz_wI, gK_wO, gK_wR, gK_wI, gN_wO, gN_wR, gN_wI, gI_wO, gI_wR, gI_wI, gR_wO, gR_wR, gR_wI, gJ_wO, gJ_wR, gJ_wI, up2, i0, i6, show ¬ (d + 1 = d + 5 + b) by omega]) (Or.inl ⟨rfl, by simp [gz_wO, gz_wR, gz_wI, gK_wO, gK_wR, gK_wI, gN_wO, gN_wR, gN_wI, gI_wO, gI_wR, gI_wI, gR_wO, gR_wR, gR_wI, gJ_wO, gJ_wR, gJ_wI, up2, i0]⟩) rfl (by simp [gz_wO, gz_wR, gz_wI, gK_wO, gK_wR, gK_wI, gN_wO, gN_wR, gN_wI, gI_wO, gI_wR, gI_wI, gR_wO, gR_wR, gR_wI, gJ_wO, gJ_wR, gJ_wI, up2, i0, i7, show ¬ (d + 1 = d + 5 + b) by omega]) (by omega) (by decide) ?_
      refine x_iinc (v := nI 1) dX1_init_59 rfl (by decide) (by decide) ?_
      refine x_goto (tgt := 37) dX1_init_62 (by decide) ?_
      refine x_ls [(0, .ref d), (1, .int (nI (b + 1)))] ⟨rfl, (by rw [← nI_add]; rfl), trivial⟩ ?_
      refine ih (m - 1) (by omega) (b + 1) _ _ _ (by omega) (by omega) ?_ ?_ ?_
      · show 8 - (b + 1) ≤ k - 1 - 0
        omega
      · show 80 - 10 * (b + 1) ≤ n - 10 - 0
        omega
      refine ⟨?_, ?_, ?_, ?_, ?_, ?_, ?_, ?_, ?_, ?_, ?_, ?_, ?_, ?_, ?_, ?_, ?_⟩
      · simp [gz_wO, gz_wR, gz_wI, gK_wO, gK_wR, gK_wI, gN_wO, gN_wR, gN_wI, gI_wO, gI_wR, gI_wI, gR_wO, gR_wR, gR_wI, gJ_wO, gJ_wR, gJ_wI, up2, i0]
        omega
      · simp [gz_wO, gz_wR, gz_wI, gK_wO, gK_wR, gK_wI, gN_wO, gN_wR, gN_wI, gI_wO, gI_wR, gI_wI, gR_wO, gR_wR, gR_wI, gJ_wO, gJ_wR, gJ_wI, up2, i0, i1, show ¬ (d = d + 5 + b) by omega]
      · simp [gz_wO, gz_wR, gz_wI, gK_wO, gK_wR, gK_wI, gN_wO, gN_wR, gN_wI, gI_wO, gI_wR, gI_wI, gR_wO, gR_wR, gR_wI, gJ_wO, gJ_wR, gJ_wI, up2, i0, i2, show ¬ (d = d + 5 + b) by omega]
      · simp [gz_wO, gz_wR, gz_wI, gK_wO, gK_wR, gK_wI, gN_wO, gN_wR, gN_wI, gI_wO, gI_wR, gI_wI, gR_wO, gR_wR, gR_wI, gJ_wO, gJ_wR, gJ_wI, up2, i0, i3, show ¬ (d = d + 5 + b) by omega]
      · simp [gz_wO, gz_wR, gz_wI, gK_wO, gK_wR, gK_wI, gN_wO, gN_wR, gN_wI, gI_wO, gI_wR, gI_wI, gR_wO, gR_wR, gR_wI, gJ_wO, gJ_wR, gJ_wI, up2, i0, i4, show ¬ (d = d + 5 + b) by omega]
      · simp [gz_wO, gz_wR, gz_wI, gK_wO, gK_wR, gK_wI, gN_wO, gN_wR, gN_wI, gI_wO, gI_wR, gI_wI, gR_wO, gR_wR, gR_wI, gJ_wO, gJ_wR, gJ_wI, up2, i0, i5, show ¬ (d = d + 5 + b) by omega]
      · simp [gz_wO, gz_wR, gz_wI, gK_wO, gK_wR, gK_wI, gN_wO, gN_wR, gN_wI, gI_wO, gI_wR, gI_wI, gR_wO, gR_wR, gR_wI, gJ_wO, gJ_wR, gJ_wI, up2, i0, i6, show ¬ (d + 1 = d + 5 + b) by omega]
      · simp [gz_wO, gz_wR, gz_wI, gK_wO, gK_wR, gK_wI, gN_wO, gN_wR, gN_wI, gI_wO, gI_wR, gI_wI, gR_wO, gR_wR, gR_wI, gJ_wO, gJ_wR, gJ_wI, up2, i0, i7, show ¬ (d + 1 = d + 5 + b) by omega]
      · simp [gz_wO, gz_wR, gz_wI, gK_wO, gK_wR, gK_wI, gN_wO, gN_wR, gN_wI, gI_wO, gI_wR, gI_wI, gR_wO, gR_wR, gR_wI, gJ_wO, gJ_wR, gJ_wI, up2, i0, i8, show ¬ (d + 2 = d + 5 + b) by omega]
      · simp [gz_wO, gz_wR, gz_wI, gK_wO, gK_wR, gK_wI, gN_wO, gN_wR, gN_wI, gI_wO, gI_wR, gI_wI, gR_wO, gR_wR, gR_wI, gJ_wO, gJ_wR, gJ_wI, up2, i0, i9, show ¬ (d + 2 = d + 5 + b) by omega]
      · simp [gz_wO, gz_wR, gz_wI, gK_wO, gK_wR, gK_wI, gN_wO, gN_wR, gN_wI, gI_wO, gI_wR, gI_wI, gR_wO, gR_wR, gR_wI, gJ_wO, gJ_wR, gJ_wI, up2, i0, i10, show ¬ (d + 3 = d + 5 + b) by omega]
      · simp [gz_wO, gz_wR, gz_wI, gK_wO, gK_wR, gK_wI, gN_wO, gN_wR, gN_wI, gI_wO, gI_wR, gI_wI, gR_wO, gR_wR, gR_wI, gJ_wO, gJ_wR, gJ_wI, up2, i0, i11, show ¬ (d + 3 = d + 5 + b) by omega]
      · simp [gz_wO, gz_wR, gz_wI, gK_wO, gK_wR, gK_wI, gN_wO, gN_wR, gN_wI, gI_wO, gI_wR, gI_wI, gR_wO, gR_wR, gR_wI, gJ_wO, gJ_wR, gJ_wI, up2, i0, i12, show ¬ (d + 4 = d + 5 + b) by omega]
      · simp [gz_wO, gz_wR, gz_wI, gK_wO, gK_wR, gK_wI, gN_wO, gN_wR, gN_wI, gI_wO, gI_wR, gI_wI, gR_wO, gR_wR, gR_wI, gJ_wO, gJ_wR, gJ_wI, up2, i0, i13, show ¬ (d + 4 = d + 5 + b) by omega]
      · intro i hi
        by_cases e : i = b
        · subst e
          simp [gz_wO, gz_wR, gz_wI, gK_wO, gK_wR, gK_wI, gN_wO, gN_wR, gN_wI, gI_wO, gI_wR, gI_wI, gR_wO, gR_wR, gR_wI, gJ_wO, gJ_wR, gJ_wI, up2, i0, show ¬ (d + 1 = d + 5 + i) by omega]
        · have q := i14 i (by omega)
          simp [gz_wO, gz_wR, gz_wI, gK_wO, gK_wR, gK_wI, gN_wO, gN_wR, gN_wI, gI_wO, gI_wR, gI_wI, gR_wO, gR_wR, gR_wI, gJ_wO, gJ_wR, gJ_wI, up2, i0, e, q.1, q.2, show ¬ (d + 1 = d + 5 + b) by omega, show ¬ (d + 5 + i = d + 5 + b) by omega]
      · intro j
        simp [gz_wO, gz_wR, gz_wI, gK_wO, gK_wR, gK_wI, gN_wO, gN_wR, gN_wI, gI_wO, gI_wR, gI_wI, gR_wO, gR_wR, gR_wI, gJ_wO, gJ_wR, gJ_wI, up2, i0, i15, show ¬ (d = d + 5 + b) by omega]
      · intro a ha
        obtain ⟨q1, q2, q3, q4, q5⟩ := i16 a ha
        simp [gz_wO, gz_wR, gz_wI, gK_wO, gK_wR, gK_wI, gN_wO, gN_wR, gN_wI, gI_wO, gI_wR, gI_wI, gR_wO, gR_wR, gR_wI, gJ_wO, gJ_wR, gJ_wI, up2, i0, q1, q2, q3, q4, q5, show ¬ (a = d + 5 + b) by omega, show ¬ (a = d + 1) by omega]
  refine x_aload_n dX1_init_0 rfl ?_
  refine x_objI hO dX1_init_1 l_X1_3 i_obj c_obj ⟨by decide, by decide⟩ (Nat.le_of_ble_eq_true rfl) ?_
  refine x_aload_n dX1_init_4 rfl ?_
  refine x_bipush (v := nI 8) dX1_init_5 (by decide) ?_
  refine x_anew 25 _ hO dX1_init_7 (by decide) rfl q_X1_9 (ao_X0 hO) rfl (by decide) (by decide) (by decide) ?_
  simp only [gz_wO, gz_wR, gz_wI, hz, Nat.add_assoc, Nat.reduceAdd]
  refine x_putR (r := some _) 3 hO dX1_init_10 f_X1_11 (fw_3_0) (by simp [gz_wO, gz_wR, gz_wI, gK_wO, gK_wR, gK_wI, gN_wO, gN_wR, gN_wI, gI_wO, gI_wR, gI_wI, gR_wO, gR_wR, gR_wI, gJ_wO, gJ_wR, gJ_wI, up2, hz, hK, Nat.add_assoc]) ⟨by decide, by decide⟩ rfl rfl rfl ?_
  refine x_aload_n dX1_init_13 rfl ?_
  refine x_iconst (v := nI 5) dX1_init_14 (by decide) ?_
  refine x_newa 20 _ hO dX1_init_15 ⟨by decide, by decide⟩ rfl ac_int rfl (by decide) (by decide) (by decide) ?_
  simp only [gz_wO, gz_wR, gz_wI, hz, Nat.add_assoc, Nat.reduceAdd]
  refine x_putR (r := some _) 3 hO dX1_init_17 f_X1_17 (fw_3_1) (by simp [gz_wO, gz_wR, gz_wI, gK_wO, gK_wR, gK_wI, gN_wO, gN_wR, gN_wI, gI_wO, gI_wR, gI_wI, gR_wO, gR_wR, gR_wI, gJ_wO, gJ_wR, gJ_wI, up2, hz, hK, Nat.add_assoc]) ⟨by decide, by decide⟩ rfl rfl rfl ?_
  refine x_aload_n dX1_init_20 rfl ?_
  refine x_iconst (v := nI 5) dX1_init_21 (by decide) ?_
  refine x_newa 20 _ hO dX1_init_22 ⟨by decide, by decide⟩ rfl ac_int rfl (by decide) (by decide) (by decide) ?_
  simp only [gz_wO, gz_wR, gz_wI, hz, Nat.add_assoc, Nat.reduceAdd]
  refine x_putR (r := some _) 3 hO dX1_init_24 f_X1_21 (fw_3_2) (by simp [gz_wO, gz_wR, gz_wI, gK_wO, gK_wR, gK_wI, gN_wO, gN_wR, gN_wI, gI_wO, gI_wR, gI_wI, gR_wO, gR_wR, gR_wI, gJ_wO, gJ_wR, gJ_wI, up2, hz, hK, Nat.add_assoc]) ⟨by decide, by decide⟩ rfl rfl rfl ?_
  refine x_aload_n dX1_init_27 rfl ?_
  refine x_bipush (v := nI 6) dX1_init_28 (by decide) ?_
  refine x_newa 20 _ hO dX1_init_30 ⟨by decide, by decide⟩ rfl ac_int rfl (by decide) (by decide) (by decide) ?_
  simp only [gz_wO, gz_wR, gz_wI, hz, Nat.add_assoc, Nat.reduceAdd]
  refine x_putR (r := some _) 3 hO dX1_init_32 f_X1_24 (fw_3_3) (by simp [gz_wO, gz_wR, gz_wI, gK_wO, gK_wR, gK_wI, gN_wO, gN_wR, gN_wI, gI_wO, gI_wR, gI_wI, gR_wO, gR_wR, gR_wI, gJ_wO, gJ_wR, gJ_wI, up2, hz, hK, Nat.add_assoc]) ⟨by decide, by decide⟩ rfl rfl rfl ?_
  refine x_iconst (v := nI 0) dX1_init_35 (by decide) ?_
  refine x_istore_n dX1_init_36 (by decide) ?_
  refine x_ls [(0, .ref d), (1, .int (nI 0))] ⟨rfl, rfl, trivial⟩ ?_
  refine loop _ 0 _ _ _ rfl (by decide) (by decide) (by decide) ?_
  refine ⟨?_, ?_, ?_, ?_, ?_, ?_, ?_, ?_, ?_, ?_, ?_, ?_, ?_, ?_, fun i hi => absurd hi (Nat.not_lt_zero i), ?_, ?_⟩
  · simp [gz_wO, gz_wR, gz_wI, gK_wO, gK_wR, gK_wI, gN_wO, gN_wR, gN_wI, gI_wO, gI_wR, gI_wI, gR_wO, gR_wR, gR_wI, gJ_wO, gJ_wR, gJ_wI, up2, hz, hK, Nat.add_assoc]
  · simp [gz_wO, gz_wR, gz_wI, gK_wO, gK_wR, gK_wI, gN_wO, gN_wR, gN_wI, gI_wO, gI_wR, gI_wI, gR_wO, gR_wR, gR_wI, gJ_wO, gJ_wR, gJ_wI, up2, hz, hK, Nat.add_assoc]
  · simp [gz_wO, gz_wR, gz_wI, gK_wO, gK_wR, gK_wI, gN_wO, gN_wR, gN_wI, gI_wO, gI_wR, gI_wI, gR_wO, gR_wR, gR_wI, gJ_wO, gJ_wR, gJ_wI, up2, hz, hK, Nat.add_assoc]
  · simp [gz_wO, gz_wR, gz_wI, gK_wO, gK_wR, gK_wI, gN_wO, gN_wR, gN_wI, gI_wO, gI_wR, gI_wI, gR_wO, gR_wR, gR_wI, gJ_wO, gJ_wR, gJ_wI, up2, hz, hK, Nat.add_assoc]
  · simp [gz_wO, gz_wR, gz_wI, gK_wO, gK_wR, gK_wI, gN_wO, gN_wR, gN_wI, gI_wO, gI_wR, gI_wI, gR_wO, gR_wR, gR_wI, gJ_wO, gJ_wR, gJ_wI, up2, hz, hK, Nat.add_assoc]
  · simp [gz_wO, gz_wR, gz_wI, gK_wO, gK_wR, gK_wI, gN_wO, gN_wR, gN_wI, gI_wO, gI_wR, gI_wI, gR_wO, gR_wR, gR_wI, gJ_wO, gJ_wR, gJ_wI, up2, hz, hK, Nat.add_assoc]
  · simp [gz_wO, gz_wR, gz_wI, gK_wO, gK_wR, gK_wI, gN_wO, gN_wR, gN_wI, gI_wO, gI_wR, gI_wI, gR_wO, gR_wR, gR_wI, gJ_wO, gJ_wR, gJ_wI, up2, hz, hK, Nat.add_assoc]
  · simp [gz_wO, gz_wR, gz_wI, gK_wO, gK_wR, gK_wI, gN_wO, gN_wR, gN_wI, gI_wO, gI_wR, gI_wI, gR_wO, gR_wR, gR_wI, gJ_wO, gJ_wR, gJ_wI, up2, hz, hK, Nat.add_assoc]
  · simp [gz_wO, gz_wR, gz_wI, gK_wO, gK_wR, gK_wI, gN_wO, gN_wR, gN_wI, gI_wO, gI_wR, gI_wI, gR_wO, gR_wR, gR_wI, gJ_wO, gJ_wR, gJ_wI, up2, hz, hK, Nat.add_assoc]
  · simp [gz_wO, gz_wR, gz_wI, gK_wO, gK_wR, gK_wI, gN_wO, gN_wR, gN_wI, gI_wO, gI_wR, gI_wI, gR_wO, gR_wR, gR_wI, gJ_wO, gJ_wR, gJ_wI, up2, hz, hK, Nat.add_assoc]
  · simp [gz_wO, gz_wR, gz_wI, gK_wO, gK_wR, gK_wI, gN_wO, gN_wR, gN_wI, gI_wO, gI_wR, gI_wI, gR_wO, gR_wR, gR_wI, gJ_wO, gJ_wR, gJ_wI, up2, hz, hK, Nat.add_assoc]
  · simp [gz_wO, gz_wR, gz_wI, gK_wO, gK_wR, gK_wI, gN_wO, gN_wR, gN_wI, gI_wO, gI_wR, gI_wI, gR_wO, gR_wR, gR_wI, gJ_wO, gJ_wR, gJ_wI, up2, hz, hK, Nat.add_assoc]
  · simp [gz_wO, gz_wR, gz_wI, gK_wO, gK_wR, gK_wI, gN_wO, gN_wR, gN_wI, gI_wO, gI_wR, gI_wI, gR_wO, gR_wR, gR_wI, gJ_wO, gJ_wR, gJ_wI, up2, hz, hK, Nat.add_assoc]
  · simp [gz_wO, gz_wR, gz_wI, gK_wO, gK_wR, gK_wI, gN_wO, gN_wR, gN_wI, gI_wO, gI_wR, gI_wI, gR_wO, gR_wR, gR_wI, gJ_wO, gJ_wR, gJ_wI, up2, hz, hK, Nat.add_assoc]
  · intro j
    simp [gz_wO, gz_wR, gz_wI, gK_wO, gK_wR, gK_wI, gN_wO, gN_wR, gN_wI, gI_wO, gI_wR, gI_wI, gR_wO, gR_wR, gR_wI, gJ_wO, gJ_wR, gJ_wI, up2, hz, h0, Nat.add_assoc]
  · intro a ha
    simp [gz_wO, gz_wR, gz_wI, gK_wO, gK_wR, gK_wI, gN_wO, gN_wR, gN_wI, gI_wO, gI_wR, gI_wI, gR_wO, gR_wR, gR_wI, gJ_wO, gJ_wR, gJ_wI, up2, hz, Nat.add_assoc, show ¬ (a = d) by omega, show ¬ (a = d + 1) by omega, show ¬ (a = d + 2) by omega, show ¬ (a = d + 3) by omega, show ¬ (a = d + 4) by omega]

