/-! THE REFERENCE: rows of 74 numbers *)-/
def Vr (f : Nat → Nat → Int32) (a : Nat) (ρ : Rw) : Prop := ∀ j, j < 74 → f a j = nI (ρ j)
def Vo (f : Nat → Nat → Int32) (a o : Nat) (ρ : Rw) : Prop := ∀ j, j < 74 → f a (o + j) = nI (ρ j)
def AS (C : AH) (a κ N : Nat) : Prop := gK C a = κ ∧ gN C a = N
abbrev RowS (C : AH) (a : Nat) : Prop := AS C a 20 74
theorem nI_sa {a b c : Nat} (h : b ≤ a + c) : nI a - nI b + nI c = nI (a + c - b) := by
  have e : ∀ x y z : Int32, x - y + z = x + z - y := fun x y z => by
    rw [Int32.sub_eq_add_neg, Int32.sub_eq_add_neg, Int32.add_assoc, Int32.add_comm (-y), Int32.add_assoc]
  rw [e, nI_add, pk_sub h]
section XROW
variable {G : GT} {M : MI} {Q : QT} {X : XT} {k n pc : Nat} {ls : List (Nat × Value)} {st : List Value} {C : AH}
theorem x_row {a : Nat} {i : Int32} {ρ : Rw} (j : Nat) (hO : GO G) (d : decode (mB M) pc = .ok (.iaload, 1)) (hA : RowS C a) (hV : Vr (gI C) a ρ) (hi : i = nI j) (hj : j < 74) (kk : Ex G M Q X k n (pc + 1) ls (.int (nI (ρ j)) :: st) C) : Ex G M Q X k n pc ls (.int i :: .ref a :: st) C := by
  refine x_iald j 74 hO d hA.1 hi hA.2 hj (by decide) ?_
  rw [hV j hj]
  exact kk
theorem x_rowS {a : Nat} {i x : Int32} {ρ : Rw} (j v : Nat) (hO : GO G) (d : decode (mB M) pc = .ok (.iastore, 1)) (hA : RowS C a) (hV : Vr (gI C) a ρ) (hi : i = nI j) (hj : j < 74) (hx : x = nI v) (kk : ∀ f : Nat → Nat → Int32, Vr f a (uN ρ j v) → (∀ b : Nat, b ≠ a → f b = gI C b) → Ex G M Q X k n (pc + 1) ls st (wI C f)) : Ex G M Q X k n pc ls (.int x :: .int i :: .ref a :: st) C := by
  refine x_iast j 74 hO d hA.1 hi hA.2 hj (by decide) (kk _ (fun q hq => ?_) fun b hb => funext fun q => up2_n fun h => hb h.1)
  by_cases e : q = j
  · subst e
    rw [up2_s, uN_s]
    exact hx
  · rw [up2_n (fun h => e h.2), uN_n e]
    exact hV q hq
end XROW
theorem r_busAt {G : GT} {C : AH} {Q : QT} {X : XT} {j w : Nat} (hO : GO G) (hq : Q (some (.int (nI (bi j w)))) C) : Mt G M_X5_busAt [.int (nI j), .int (nI w)] C Q X := by
  refine Mt_of (by decide) (Nat.le_of_ble_eq_true rfl) ?_
  refine x_bipush (v := nI 13) dX5_busAt_0 (by decide) ?_
  refine x_bipush (v := nI 7) dX5_busAt_2 (by decide) ?_
  refine x_iload_n dX5_busAt_4 rfl ?_
  refine x_imul dX5_busAt_5 ?_
  refine x_iadd dX5_busAt_6 ?_
  refine x_iload_n dX5_busAt_7 rfl ?_
  refine x_iadd dX5_busAt_8 ?_
  rw [pk_mul, nI_add, nI_add]
  refine x_iret dX5_busAt_9 rfl rfl ?_
  exact hq
theorem r_isNight {G : GT} {C : AH} {Q : QT} {X : XT} {a : Nat} {ρ : Rw} (hO : GO G) (hA : RowS C a) (hV : Vr (gI C) a ρ) (h12 : ρ 12 ≤ 23) (h0 : ρ 0 < 1000000) (hq : ∀ r : Int32, r = (if nite ρ then 1 else 0) → Q (some (.int r)) C) : Mt G M_X5_isNight [.ref a] C Q X := by
  refine Mt_of (by decide) (Nat.le_of_ble_eq_true rfl) ?_
  refine x_aload_n dX5_isNight_0 rfl ?_
  refine x_iconst (v := nI 0) dX5_isNight_1 (by decide) ?_
  refine x_row _ hO dX5_isNight_2 hA hV rfl (by omega) ?_
  refine x_bipush (v := nI 24) dX5_isNight_3 (by decide) ?_
  refine x_irem dX5_isNight_5 (by decide) ?_
  rw [pk_rem (by omega) (by decide) (by decide)]
  refine x_aload_n dX5_isNight_6 rfl ?_
  refine x_bipush (v := nI 12) dX5_isNight_7 (by decide) ?_
  refine x_row _ hO dX5_isNight_9 hA hV rfl (by omega) ?_
  refine x_isub dX5_isNight_10 ?_
  refine x_bipush (v := nI 24) dX5_isNight_11 (by decide) ?_
  refine x_iadd dX5_isNight_13 ?_
  rw [nI_sa (by omega)]
  refine x_bipush (v := nI 24) dX5_isNight_14 (by decide) ?_
  refine x_irem dX5_isNight_16 (by decide) ?_
  rw [pk_rem (by omega) (by decide) (by decide)]
  refine x_bipush (v := nI 8) dX5_isNight_17 (by decide) ?_
  refine x_icmp_ge (tgt := 26) dX5_isNight_19 (by decide) (fun c19 => ?_) (fun c19 => ?_)
  · simp (disch := omega) only [nI_leI] at c19
    refine x_iconst (v := nI 0) dX5_isNight_26 (by decide) ?_
    refine x_iret dX5_isNight_27 rfl (by first | rfl | assumption) ?_
    exact hq _ (by first | exact (if_pos (by show (ρ 0 % 24 + 24 - ρ 12) % 24 < 8; omega)).symm | exact (if_neg (by show ¬ (ρ 0 % 24 + 24 - ρ 12) % 24 < 8; omega)).symm)
  · simp (disch := omega) only [nI_leI] at c19
    refine x_iconst (v := nI 1) dX5_isNight_22 (by decide) ?_
    refine x_goto (tgt := 27) dX5_isNight_23 (by decide) ?_
    refine x_iret dX5_isNight_27 rfl (by first | rfl | assumption) ?_
    exact hq _ (by first | exact (if_pos (by show (ρ 0 % 24 + 24 - ρ 12) % 24 < 8; omega)).symm | exact (if_neg (by show ¬ (ρ 0 % 24 + 24 - ρ 12) % 24 < 8; omega)).symm)
theorem r_hoursLeft {G : GT} {C : AH} {Q : QT} {X : XT} {a : Nat} {ρ : Rw} {j : Nat} (hO : GO G) (hA : RowS C a) (hV : Vr (gI C) a ρ) (hj : j < 8) (h3 : ρ (bi j 3) < 24) (h0 : ρ 0 < 1000000) (hq : Q (some (.int (nI (hrs ρ j)))) C) : Mt G M_X5_hoursLeft [.ref a, .int (nI j)] C Q X := by
  refine Mt_of (by decide) (Nat.le_of_ble_eq_true rfl) ?_
  refine x_aload_n dX5_hoursLeft_0 rfl ?_
  refine x_iload_n dX5_hoursLeft_1 rfl ?_
  refine x_iconst (v := nI 3) dX5_hoursLeft_2 (by decide) ?_
  refine x_callS (As := [_, _]) hO dX5_hoursLeft_3 o_X5_busAt s_X5_busAt l_X5_67 ⟨by decide, by decide⟩ ⟨by decide, by decide⟩ rfl rfl (Nat.le_of_ble_eq_true rfl) (r_busAt hO ?_)
  dsimp only [Option.toList, List.cons_append, List.nil_append]
  refine x_row _ hO dX5_hoursLeft_6 hA hV rfl (by simp only [bi]; omega) ?_
  refine x_aload_n dX5_hoursLeft_7 rfl ?_
  refine x_iconst (v := nI 0) dX5_hoursLeft_8 (by decide) ?_
  refine x_row _ hO dX5_hoursLeft_9 hA hV rfl (by omega) ?_
  refine x_bipush (v := nI 24) dX5_hoursLeft_10 (by decide) ?_
  refine x_irem dX5_hoursLeft_12 (by decide) ?_
  rw [pk_rem (by omega) (by decide) (by decide)]
  refine x_isub dX5_hoursLeft_13 ?_
  refine x_bipush (v := nI 24) dX5_hoursLeft_14 (by decide) ?_
  refine x_iadd dX5_hoursLeft_16 ?_
  rw [nI_sa (by omega)]
  refine x_bipush (v := nI 24) dX5_hoursLeft_17 (by decide) ?_
  refine x_irem dX5_hoursLeft_19 (by decide) ?_
  rw [pk_rem (by omega) (by decide) (by decide)]
  refine x_istore_n dX5_hoursLeft_20 (by decide) ?_
  refine x_iload_n dX5_hoursLeft_21 rfl ?_
  refine x_if_ne (tgt := 30) dX5_hoursLeft_22 (by decide) (fun c22 => ?_) (fun c22 => ?_)
  · simp (disch := omega) only [nI_z] at c22
    have e : hrs ρ j = (ρ (bi j 3) + 24 - ρ 0 % 24) % 24 := if_neg c22
    rw [e] at hq
    refine x_iload_n dX5_hoursLeft_30 rfl ?_
    refine x_iret dX5_hoursLeft_31 rfl rfl ?_
    exact hq
  · simp (disch := omega) only [nI_z] at c22
    have e : hrs ρ j = 24 := if_pos c22
    rw [e] at hq
    refine x_bipush (v := nI 24) dX5_hoursLeft_25 (by decide) ?_
    refine x_goto (tgt := 31) dX5_hoursLeft_27 (by decide) ?_
    refine x_iret dX5_hoursLeft_31 rfl rfl ?_
    exact hq
theorem r_isLow {G : GT} {C : AH} {Q : QT} {X : XT} {a : Nat} {ρ : Rw} {j : Nat} (hO : GO G) (hA : RowS C a) (hV : Vr (gI C) a ρ) (hj : j < 8) (hb : ρ (bi j 6) < 1000000 ∧ ρ (bi j 1) < 1000000 ∧ ρ (bi j 2) < 1000000) (hq : ∀ r : Int32, r = (if low ρ j then 1 else 0) → Q (some (.int r)) C) : Mt G M_X5_isLow [.ref a, .int (nI j)] C Q X := by
  refine Mt_of (by decide) (Nat.le_of_ble_eq_true rfl) ?_
  obtain ⟨b6, b1, b2⟩ := hb
  refine x_aload_n dX5_isLow_0 rfl ?_
  refine x_iload_n dX5_isLow_1 rfl ?_
  refine x_bipush (v := nI 6) dX5_isLow_2 (by decide) ?_
  refine x_callS (As := [_, _]) hO dX5_isLow_4 o_X5_busAt s_X5_busAt l_X5_67 ⟨by decide, by decide⟩ ⟨by decide, by decide⟩ rfl rfl (Nat.le_of_ble_eq_true rfl) (r_busAt hO ?_)
  dsimp only [Option.toList, List.cons_append, List.nil_append]
  refine x_row _ hO dX5_isLow_7 hA hV rfl (by simp only [bi]; omega) ?_
  refine x_if_ne (tgt := 32) dX5_isLow_8 (by decide) (fun c8 => ?_) (fun c8 => ?_)
  · simp (disch := omega) only [nI_z] at c8
    refine x_iconst (v := nI 0) dX5_isLow_32 (by decide) ?_
    refine x_iret dX5_isLow_33 rfl (by first | rfl | assumption) ?_
    exact hq _ (by first | exact (if_pos ⟨by omega, by omega⟩).symm | exact (if_neg (fun h => by have h1 := h.1; have h2 := h.2; omega)).symm)
  · simp (disch := omega) only [nI_z] at c8
    refine x_aload_n dX5_isLow_11 rfl ?_
    refine x_iload_n dX5_isLow_12 rfl ?_
    refine x_iconst (v := nI 1) dX5_isLow_13 (by decide) ?_
    refine x_callS (As := [_, _]) hO dX5_isLow_14 o_X5_busAt s_X5_busAt l_X5_67 ⟨by decide, by decide⟩ ⟨by decide, by decide⟩ rfl rfl (Nat.le_of_ble_eq_true rfl) (r_busAt hO ?_)
    dsimp only [Option.toList, List.cons_append, List.nil_append]
    refine x_row _ hO dX5_isLow_17 hA hV rfl (by simp only [bi]; omega) ?_
    refine x_aload_n dX5_isLow_18 rfl ?_
    refine x_iload_n dX5_isLow_19 rfl ?_
    refine x_iconst (v := nI 2) dX5_isLow_20 (by decide) ?_
    refine x_callS (As := [_, _]) hO dX5_isLow_21 o_X5_busAt s_X5_busAt l_X5_67 ⟨by decide, by decide⟩ ⟨by decide, by decide⟩ rfl rfl (Nat.le_of_ble_eq_true rfl) (r_busAt hO ?_)
    dsimp only [Option.toList, List.cons_append, List.nil_append]
    refine x_row _ hO dX5_isLow_24 hA hV rfl (by simp only [bi]; omega) ?_
    refine x_icmp_ge (tgt := 32) dX5_isLow_25 (by decide) (fun c25 => ?_) (fun c25 => ?_)
    · simp (disch := omega) only [nI_leI] at c25
      refine x_iconst (v := nI 0) dX5_isLow_32 (by decide) ?_
      refine x_iret dX5_isLow_33 rfl (by first | rfl | assumption) ?_
      exact hq _ (by first | exact (if_pos ⟨by omega, by omega⟩).symm | exact (if_neg (fun h => by have h1 := h.1; have h2 := h.2; omega)).symm)
    · simp (disch := omega) only [nI_leI] at c25
      refine x_iconst (v := nI 1) dX5_isLow_28 (by decide) ?_
      refine x_goto (tgt := 33) dX5_isLow_29 (by decide) ?_
      refine x_iret dX5_isLow_33 rfl (by first | rfl | assumption) ?_
      exact hq _ (by first | exact (if_pos ⟨by omega, by omega⟩).symm | exact (if_neg (fun h => by have h1 := h.1; have h2 := h.2; omega)).symm)
theorem r_isFull {G : GT} {C : AH} {Q : QT} {X : XT} {a : Nat} {ρ : Rw} {j : Nat} (hO : GO G) (hA : RowS C a) (hV : Vr (gI C) a ρ) (hj : j < 8) (hb : ρ (bi j 0) < 1000000 ∧ ρ (bi j 1) < 1000000) (hq : ∀ r : Int32, r = (if isF ρ j then 1 else 0) → Q (some (.int r)) C) : Mt G M_X5_isFull [.ref a, .int (nI j)] C Q X := by
  refine Mt_of (by decide) (Nat.le_of_ble_eq_true rfl) ?_
  obtain ⟨b0, b1⟩ := hb
  refine x_aload_n dX5_isFull_0 rfl ?_
  refine x_iload_n dX5_isFull_1 rfl ?_
  refine x_iconst (v := nI 1) dX5_isFull_2 (by decide) ?_
  refine x_callS (As := [_, _]) hO dX5_isFull_3 o_X5_busAt s_X5_busAt l_X5_67 ⟨by decide, by decide⟩ ⟨by decide, by decide⟩ rfl rfl (Nat.le_of_ble_eq_true rfl) (r_busAt hO ?_)
  dsimp only [Option.toList, List.cons_append, List.nil_append]
  refine x_row _ hO dX5_isFull_6 hA hV rfl (by simp only [bi]; omega) ?_
  refine x_aload_n dX5_isFull_7 rfl ?_
  refine x_iload_n dX5_isFull_8 rfl ?_
  refine x_iconst (v := nI 0) dX5_isFull_9 (by decide) ?_
  refine x_callS (As := [_, _]) hO dX5_isFull_10 o_X5_busAt s_X5_busAt l_X5_67 ⟨by decide, by decide⟩ ⟨by decide, by decide⟩ rfl rfl (Nat.le_of_ble_eq_true rfl) (r_busAt hO ?_)
  dsimp only [Option.toList, List.cons_append, List.nil_append]
  refine x_row _ hO dX5_isFull_13 hA hV rfl (by simp only [bi]; omega) ?_
  refine x_icmp_lt (tgt := 21) dX5_isFull_14 (by decide) (fun c14 => ?_) (fun c14 => ?_)
  · simp (disch := omega) only [nI_ltI] at c14
    refine x_iconst (v := nI 0) dX5_isFull_21 (by decide) ?_
    refine x_iret dX5_isFull_22 rfl (by first | rfl | assumption) ?_
    exact hq _ (by first | exact (if_pos (show ρ (bi j 0) ≤ ρ (bi j 1) by omega)).symm | exact (if_neg (show ¬ ρ (bi j 0) ≤ ρ (bi j 1) by omega)).symm)
  · simp (disch := omega) only [nI_ltI] at c14
    refine x_iconst (v := nI 1) dX5_isFull_17 (by decide) ?_
    refine x_goto (tgt := 22) dX5_isFull_18 (by decide) ?_
    refine x_iret dX5_isFull_22 rfl (by first | rfl | assumption) ?_
    exact hq _ (by first | exact (if_pos (show ρ (bi j 0) ≤ ρ (bi j 1) by omega)).symm | exact (if_neg (show ¬ ρ (bi j 0) ≤ ρ (bi j 1) by omega)).symm)
theorem r_wants {G : GT} {C : AH} {Q : QT} {X : XT} {a : Nat} {ρ : Rw} {j : Nat} (hO : GO G) (hA : RowS C a) (hV : Vr (gI C) a ρ) (hj : j < 8) (hb : ρ (bi j 0) < 1000000 ∧ ρ (bi j 1) < 1000000 ∧ ρ (bi j 2) < 1000000 ∧ ρ (bi j 6) < 1000000) (hq : ∀ r : Int32, r = (if wnt ρ j then 1 else 0) → Q (some (.int r)) C) : Mt G M_X5_wants [.ref a, .int (nI j)] C Q X := by
  refine Mt_of (by decide) (Nat.le_of_ble_eq_true rfl) ?_
  obtain ⟨b0, b1, b2, b6⟩ := hb
  refine x_aload_n dX5_wants_0 rfl ?_
  refine x_iload_n dX5_wants_1 rfl ?_
  refine x_callS (As := [_, _]) hO dX5_wants_2 o_X5_isLow s_X5_isLow l_X5_71 ⟨by decide, by decide⟩ ⟨by decide, by decide⟩ rfl rfl (Nat.le_of_ble_eq_true rfl) (r_isLow hO hA hV hj ⟨b6, b1, b2⟩ (fun r2 hr2 => ?_))
  dsimp only [Option.toList, List.cons_append, List.nil_append]
  refine x_if_eq (tgt := 20) dX5_wants_5 (by decide) (fun c5 => ?_) (fun c5 => ?_)
  · have p2 := (ite01 hr2).1 c5
    refine x_iconst (v := nI 0) dX5_wants_20 (by decide) ?_
    refine x_iret dX5_wants_21 rfl (by first | rfl | assumption) ?_
    exact hq _ (by first | exact (if_pos ⟨p2, p10⟩).symm | exact (if_neg (fun h => p10 h.2)).symm | exact (if_neg (fun h => p10 (not_not.mp fun q => h.2 q))).symm | exact (if_neg (fun h => p2 h.1)).symm | exact (if_neg (fun h => h.2 p10)).symm)
  · have p2 := (ite01 hr2).2 c5
    refine x_aload_n dX5_wants_8 rfl ?_
    refine x_iload_n dX5_wants_9 rfl ?_
    refine x_callS (As := [_, _]) hO dX5_wants_10 o_X5_isFull s_X5_isFull l_X5_79 ⟨by decide, by decide⟩ ⟨by decide, by decide⟩ rfl rfl (Nat.le_of_ble_eq_true rfl) (r_isFull hO hA hV hj ⟨b0, b1⟩ (fun r10 hr10 => ?_))
    dsimp only [Option.toList, List.cons_append, List.nil_append]
    refine x_if_ne (tgt := 20) dX5_wants_13 (by decide) (fun c13 => ?_) (fun c13 => ?_)
    · have p10 := (ite01 hr10).2 c13
      refine x_iconst (v := nI 0) dX5_wants_20 (by decide) ?_
      refine x_iret dX5_wants_21 rfl (by first | rfl | assumption) ?_
      exact hq _ (by first | exact (if_pos ⟨p2, p10⟩).symm | exact (if_neg (fun h => p10 h.2)).symm | exact (if_neg (fun h => p10 (not_not.mp fun q => h.2 q))).symm | exact (if_neg (fun h => p2 h.1)).symm | exact (if_neg (fun h => h.2 p10)).symm)
    · have p10 := (ite01 hr10).1 c13
      refine x_iconst (v := nI 1) dX5_wants_16 (by decide) ?_
      refine x_goto (tgt := 21) dX5_wants_17 (by decide) ?_
      refine x_iret dX5_wants_21 rfl (by first | rfl | assumption) ?_
      exact hq _ (by first | exact (if_pos ⟨p2, p10⟩).symm | exact (if_neg (fun h => p10 h.2)).symm | exact (if_neg (fun h => p10 (not_not.mp fun q => h.2 q))).symm | exact (if_neg (fun h => p2 h.1)).symm | exact (if_neg (fun h => h.2 p10)).symm)

theorem r_isAhead {G : GT} {C : AH} {Q : QT} {X : XT} {a : Nat} {ρ : Rw} {b c : Nat} (hO : GO G) (hA : RowS C a) (hV : Vr (gI C) a ρ) (hW : Wf ρ) (h0 : ρ 0 < 1000000) (hb : b < ρ 1) (hc : c < ρ 1) (lb : wnt ρ b) (lc : wnt ρ c) (hq : ∀ r : Int32, r = (if ahd ρ b c then 1 else 0) → Q (some (.int r)) C) : Mt G M_X5_isAhead [.ref a, .int (nI b), .int (nI c)] C Q X := by
  refine Mt_of (by decide) (Nat.le_of_ble_eq_true rfl) ?_
  obtain ⟨w1, w2, w7, w8, w9, w10, w11, w11', w12, wB, wP⟩ := id hW
  obtain ⟨b0, b0', b1, b2, b2', b3, b4, b34, b6⟩ := wB b hb
  obtain ⟨c0, c0', c1, c2, c2', c3, c4, c34, c6⟩ := wB c hc
  have l1 := lb.1.2
  have l2 := lc.1.2
  have q1 := hrs_in (ρ := ρ) (b := b)
  have q2 := hrs_in (ρ := ρ) (b := c)
  have t3 : (nI (hrs ρ b) - nI (hrs ρ c)).toInt = (hrs ρ b : Int) - hrs ρ c := pk_sub_toInt (by omega) (by omega)
  have hlt : nI (hrs ρ b) - nI (hrs ρ c) < 0 ↔ hrs ρ b < hrs ρ c := by
    rw [Int32.lt_iff_toInt_lt, t3]
    show _ < (0 : Int) ↔ _
    omega
  have heq : nI (hrs ρ b) - nI (hrs ρ c) = 0 ↔ hrs ρ b = hrs ρ c := by
    rw [← Int32.toInt_inj, t3]
    show _ = (0 : Int) ↔ _
    omega
  refine x_aload_n dX5_isAhead_0 rfl ?_
  refine x_iload_n dX5_isAhead_1 rfl ?_
  refine x_callS (As := [_, _]) hO dX5_isAhead_2 o_X5_hoursLeft s_X5_hoursLeft l_X5_82 ⟨by decide, by decide⟩ ⟨by decide, by decide⟩ rfl rfl (Nat.le_of_ble_eq_true rfl) (r_hoursLeft hO hA hV (by omega) b3 h0 ?_)
  dsimp only [Option.toList, List.cons_append, List.nil_append]
  refine x_aload_n dX5_isAhead_5 rfl ?_
  refine x_iload_n dX5_isAhead_6 rfl ?_
  refine x_callS (As := [_, _]) hO dX5_isAhead_7 o_X5_hoursLeft s_X5_hoursLeft l_X5_82 ⟨by decide, by decide⟩ ⟨by decide, by decide⟩ rfl rfl (Nat.le_of_ble_eq_true rfl) (r_hoursLeft hO hA hV (by omega) c3 h0 ?_)
  dsimp only [Option.toList, List.cons_append, List.nil_append]
  refine x_isub dX5_isAhead_10 ?_
  refine x_istore_n dX5_isAhead_11 (by decide) ?_
  refine x_aload_n dX5_isAhead_12 rfl ?_
  refine x_iload_n dX5_isAhead_13 rfl ?_
  refine x_iconst (v := nI 2) dX5_isAhead_14 (by decide) ?_
  refine x_callS (As := [_, _]) hO dX5_isAhead_15 o_X5_busAt s_X5_busAt l_X5_67 ⟨by decide, by decide⟩ ⟨by decide, by decide⟩ rfl rfl (Nat.le_of_ble_eq_true rfl) (r_busAt hO ?_)
  dsimp only [Option.toList, List.cons_append, List.nil_append]
  refine x_row _ hO dX5_isAhead_18 hA hV rfl (by simp only [bi]; omega) ?_
  refine x_aload_n dX5_isAhead_19 rfl ?_
  refine x_iload_n dX5_isAhead_20 rfl ?_
  refine x_iconst (v := nI 1) dX5_isAhead_21 (by decide) ?_
  refine x_callS (As := [_, _]) hO dX5_isAhead_22 o_X5_busAt s_X5_busAt l_X5_67 ⟨by decide, by decide⟩ ⟨by decide, by decide⟩ rfl rfl (Nat.le_of_ble_eq_true rfl) (r_busAt hO ?_)
  dsimp only [Option.toList, List.cons_append, List.nil_append]
  refine x_row _ hO dX5_isAhead_25 hA hV rfl (by simp only [bi]; omega) ?_
  refine x_isub dX5_isAhead_26 ?_
  rw [pk_sub (a := ρ (bi b 2)) (b := ρ (bi b 1)) (by omega)]
  refine x_istore dX5_isAhead_27 (by decide) ?_
  refine x_aload_n dX5_isAhead_29 rfl ?_
  refine x_iload_n dX5_isAhead_30 rfl ?_
  refine x_iconst (v := nI 2) dX5_isAhead_31 (by decide) ?_
  refine x_callS (As := [_, _]) hO dX5_isAhead_32 o_X5_busAt s_X5_busAt l_X5_67 ⟨by decide, by decide⟩ ⟨by decide, by decide⟩ rfl rfl (Nat.le_of_ble_eq_true rfl) (r_busAt hO ?_)
  dsimp only [Option.toList, List.cons_append, List.nil_append]
  refine x_row _ hO dX5_isAhead_35 hA hV rfl (by simp only [bi]; omega) ?_
  refine x_aload_n dX5_isAhead_36 rfl ?_
  refine x_iload_n dX5_isAhead_37 rfl ?_
  refine x_iconst (v := nI 1) dX5_isAhead_38 (by decide) ?_
  refine x_callS (As := [_, _]) hO dX5_isAhead_39 o_X5_busAt s_X5_busAt l_X5_67 ⟨by decide, by decide⟩ ⟨by decide, by decide⟩ rfl rfl (Nat.le_of_ble_eq_true rfl) (r_busAt hO ?_)
  dsimp only [Option.toList, List.cons_append, List.nil_append]
  refine x_row _ hO dX5_isAhead_42 hA hV rfl (by simp only [bi]; omega) ?_
  refine x_isub dX5_isAhead_43 ?_
  rw [pk_sub (a := ρ (bi c 2)) (b := ρ (bi c 1)) (by omega)]
  refine x_istore dX5_isAhead_44 (by decide) ?_
  refine x_iload_n dX5_isAhead_46 rfl ?_
  refine x_if_lt (tgt := 73) dX5_isAhead_47 (by decide) (fun c47 => ?_) (fun c47 => ?_)
  · rw [hlt] at c47
    refine x_iconst (v := nI 1) dX5_isAhead_73 (by decide) ?_
    refine x_goto (tgt := 78) dX5_isAhead_74 (by decide) ?_
    refine x_iret dX5_isAhead_78 rfl (by first | rfl | assumption) ?_
    exact hq _ (by first | exact (if_pos (by show _ ∨ _; omega)).symm | exact (if_neg (by show ¬ (_ ∨ _); omega)).symm)
  · rw [hlt] at c47
    refine x_iload_n dX5_isAhead_50 rfl ?_
    refine x_if_ne (tgt := 77) dX5_isAhead_51 (by decide) (fun c51 => ?_) (fun c51 => ?_)
    · rw [heq] at c51
      refine x_iconst (v := nI 0) dX5_isAhead_77 (by decide) ?_
      refine x_iret dX5_isAhead_78 rfl (by first | rfl | assumption) ?_
      exact hq _ (by first | exact (if_pos (by show _ ∨ _; omega)).symm | exact (if_neg (by show ¬ (_ ∨ _); omega)).symm)
    · rw [heq] at c51
      refine x_iload dX5_isAhead_54 rfl ?_
      refine x_iload dX5_isAhead_56 rfl ?_
      refine x_icmp_gt (tgt := 73) dX5_isAhead_58 (by decide) (fun c58 => ?_) (fun c58 => ?_)
      · simp (disch := omega) only [nI_ltI] at c58
        refine x_iconst (v := nI 1) dX5_isAhead_73 (by decide) ?_
        refine x_goto (tgt := 78) dX5_isAhead_74 (by decide) ?_
        refine x_iret dX5_isAhead_78 rfl (by first | rfl | assumption) ?_
        exact hq _ (by first | exact (if_pos (by show _ ∨ _; omega)).symm | exact (if_neg (by show ¬ (_ ∨ _); omega)).symm)
      · simp (disch := omega) only [nI_ltI] at c58
        refine x_iload dX5_isAhead_61 rfl ?_
        refine x_iload dX5_isAhead_63 rfl ?_
        refine x_icmp_ne (tgt := 77) dX5_isAhead_65 (by decide) (fun c65 => ?_) (fun c65 => ?_)
        · simp (disch := omega) only [nI_eq] at c65
          refine x_iconst (v := nI 0) dX5_isAhead_77 (by decide) ?_
          refine x_iret dX5_isAhead_78 rfl (by first | rfl | assumption) ?_
          exact hq _ (by first | exact (if_pos (by show _ ∨ _; omega)).symm | exact (if_neg (by show ¬ (_ ∨ _); omega)).symm)
        · simp (disch := omega) only [nI_eq] at c65
          refine x_iload_n dX5_isAhead_68 rfl ?_
          refine x_iload_n dX5_isAhead_69 rfl ?_
          refine x_icmp_ge (tgt := 77) dX5_isAhead_70 (by decide) (fun c70 => ?_) (fun c70 => ?_)
          · simp (disch := omega) only [nI_leI] at c70
            refine x_iconst (v := nI 0) dX5_isAhead_77 (by decide) ?_
            refine x_iret dX5_isAhead_78 rfl (by first | rfl | assumption) ?_
            exact hq _ (by first | exact (if_pos (by show _ ∨ _; omega)).symm | exact (if_neg (by show ¬ (_ ∨ _); omega)).symm)
          · simp (disch := omega) only [nI_leI] at c70
            refine x_iconst (v := nI 1) dX5_isAhead_73 (by decide) ?_
            refine x_goto (tgt := 78) dX5_isAhead_74 (by decide) ?_
            refine x_iret dX5_isAhead_78 rfl (by first | rfl | assumption) ?_
            exact hq _ (by first | exact (if_pos (by show _ ∨ _; omega)).symm | exact (if_neg (by show ¬ (_ ∨ _); omega)).symm)

