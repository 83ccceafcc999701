/-! constructors of the history and of the whole *)-/
/-- cells from a to b are the same -/
def Sm (C C' : AH) (a b : Nat) : Prop := ∀ q, a ≤ q → q < b → gK C' q = gK C q ∧ gN C' q = gN C q ∧ (∀ j, gI C' q j = gI C q j) ∧ (∀ j, gR C' q j = gR C q j) ∧ ∀ j, gJ C' q j = gJ C q j
theorem SkD_A {C C' : AH} {d : Nat} (hS : SkD C d) (h : Sm C C' d (d + 13)) : SkD C' d := by
  obtain ⟨a1, a2, a3, a4, a5, a6, a7, a8, a9, b1, b2, b3, b4, b5⟩ := hS
  obtain ⟨p1, -, -, p2, -⟩ := h d (by omega) (by omega)
  obtain ⟨q1, q2, -, q3, -⟩ := h (d + 1) (by omega) (by omega)
  obtain ⟨r1, r2, -⟩ := h (d + 2) (by omega) (by omega)
  obtain ⟨s1, s2, -⟩ := h (d + 3) (by omega) (by omega)
  obtain ⟨t1, t2, -⟩ := h (d + 4) (by omega) (by omega)
  refine ⟨p1.trans a1, (p2 0).trans a2, (p2 1).trans a3, (p2 2).trans a4, (p2 3).trans a5, q1.trans a6, q2.trans a7, r1.trans a8, r2.trans a9, s1.trans b1, s2.trans b2, t1.trans b3, t2.trans b4, fun b hb => ⟨(q3 b).trans (b5 b hb).1, ?_⟩⟩
  exact (h (d + 5 + b) (by omega) (by omega)).1.trans (b5 b hb).2
theorem VaD_A {C C' : AH} {d : Nat} {ρ : Rw} (hW : Wf ρ) (hV : VaD (gI C) d ρ) (h : Sm C C' d (d + 13)) : VaD (gI C') d ρ :=
  VaD_in hW hV fun a h1 h2 => funext fun j => (h a h1 h2).2.2.1 j
theorem TxS_A {C C' : AH} {t : Nat} (hS : TxS C t) (h : Sm C C' t (t + 3)) : TxS C' t := by
  obtain ⟨a1, a2, a3, a4, a5, a6, a7⟩ := hS
  obtain ⟨p1, -, -, p2, -⟩ := h t (by omega) (by omega)
  obtain ⟨q1, q2, -⟩ := h (t + 1) (by omega) (by omega)
  obtain ⟨r1, r2, -⟩ := h (t + 2) (by omega) (by omega)
  exact ⟨p1.trans a1, (p2 0).trans a2, (p2 4).trans a3, q1.trans a4, q2.trans a5, r1.trans a6, r2.trans a7⟩
theorem TxV_A {C C' : AH} {t n : Nat} {S : Nat → Nat} (hV : TxV (gI C) t S n) (h : Sm C C' t (t + 3)) : TxV (gI C') t S n := by
  obtain ⟨a1, a2, a3⟩ := hV
  refine ⟨((h t (by omega) (by omega)).2.2.1 1).trans a1, a2, fun i hi => ⟨((h (t + 1) (by omega) (by omega)).2.2.1 i).trans (a3 i hi).1, (a3 i hi).2⟩⟩
theorem HiS_A {C C' : AH} {h : Nat} {π : Nat → Nat} (hS : HiS C h π) (hs : Sm C C' h (h + 184)) : HiS C' h π := by
  obtain ⟨a1, a2, a3, a4, a5, a6, a7⟩ := hS
  obtain ⟨p1, -, -, p2, -⟩ := hs h (by omega) (by omega)
  obtain ⟨q1, q2, -, q3, -⟩ := hs (h + 1) (by omega) (by omega)
  exact ⟨p1.trans a1, (p2 0).trans a2, q1.trans a3, q2.trans a4, fun i hi => ⟨(q3 i).trans (a5 i hi).1, (a5 i hi).2⟩, a6, fun j hj => SkD_A (a7 j hj) fun q h1 h2 => hs q (by omega) (by omega)⟩
theorem HiV_A {C C' : AH} {h : Nat} {π : Nat → Nat} {L : List Rw} (hS : HiS C h π) (hV : HiV (gI C) h π L) (hs : Sm C C' h (h + 184)) : HiV (gI C') h π L := by
  obtain ⟨a1, a2, a3⟩ := hV
  refine ⟨((hs h (by omega) (by omega)).2.2.1 1).trans a1, a2, fun i ρ hi => ⟨(a3 i ρ hi).1, VaD_A (a3 i ρ hi).1 (a3 i ρ hi).2 fun q h1 h2 => ?_⟩⟩
  have hi2 := (List.getElem?_eq_some_iff.mp hi).1
  have := (hS.2.2.2.2.1 i (by omega)).2
  exact hs q (by omega) (by omega)
theorem Ag_wO {C : AH} {κ n d : Nat} (h : gz C = d) : Ag C (wO C κ n) d := fun a ha => by
  simp [gK_wO, gN_wO, gI_wO, gR_wO, gJ_wO, show ¬ (a = gz C) by omega]

theorem s_X2_init {G : GT} {C : AH} {Q : QT} {X : XT} {h : Nat} {sa va : Nat → Nat} (hO : GO G) (hX : GX G sa va) (hz : gz C = h + 1) (hK : gK C h = 4) (h0 : ∀ j, gI C h j = 0) (hq : ∀ C' : AH, gz C' = h + 2 + 13 * 14 → HiS C' h (fun i => i) → HiV (gI C') h (fun i => i) [] → Ag C C' h → Q none C') : Mt G M_X2_init [.ref h] C Q X := by
  refine Mt_of (by decide) (Nat.le_of_ble_eq_true rfl) ?_
  have loop : ∀ (m i k n : Nat) (C1 : AH), 14 - i = m → i ≤ 14 → 13 * (14 - i) ≤ k → 115 * (14 - i) ≤ n → (gz C1 = h + 2 + 13 * i ∧ gK C1 h = 4 ∧ gR C1 h 0 = some (h + 1) ∧ gK C1 (h + 1) = 26 ∧ gN C1 (h + 1) = 14 ∧ (∀ j, j < i → gR C1 (h + 1) j = some (h + 2 + 13 * j) ∧ SkD C1 (h + 2 + 13 * j)) ∧ (∀ j, gI C1 h j = 0) ∧ Ag C C1 h) → Ex G M_X2_init Q X k n 15 [(0, .ref h), (1, .int (nI i))] [] C1 := by
    intro m
    induction m using Nat.strongRecOn with
    | _ m ih =>
    intro i k n C1 hm hi9 hk hn hI
    refine x_iload_n dX2_init_15 rfl ?_
    refine x_aload_n dX2_init_16 rfl ?_
    obtain ⟨i0, i1, i2, i3, i4, i5, i6, i7⟩ := id hI
    refine x_get 4 hO dX2_init_17 f_X2_11 (by first | (simp only [gK_wI]; assumption) | assumption) ⟨by decide, by decide⟩ (v := .ref (h + 1)) (congrArg va_rf i2) ?_
    refine x_alen 26 _ hO dX2_init_20 (by first | (simp only [gK_wI]; assumption) | assumption) ⟨by decide, by decide⟩ (by first | (simp only [gN_wI]; assumption) | assumption) ?_
    refine x_icmp_ge (tgt := 43) dX2_init_21 (by decide) (fun c21 => ?_) (fun c21 => ?_)
    · simp (disch := omega) only [nI_leI] at c21
      refine x_ret dX2_init_43 rfl ?_
      have : i = 14 := by omega
      subst this
      refine hq _ i0 ⟨i1, i2, i3, i4, fun i hi => ⟨(i5 i hi).1, hi⟩, fun i j _ _ q => q, fun j hj => (i5 j hj).2⟩ ⟨by rw [i6]; rfl, by decide, fun i ρ hi => absurd hi (by simp)⟩ i7
    · simp (disch := omega) only [nI_leI] at c21
      refine x_aload_n dX2_init_24 rfl ?_
      refine x_get 4 hO dX2_init_25 f_X2_11 (by first | (simp only [gK_wI]; assumption) | assumption) ⟨by decide, by decide⟩ (v := .ref (h + 1)) (congrArg va_rf i2) ?_
      refine x_iload_n dX2_init_28 rfl ?_
      refine x_new 3 hO dX2_init_29 ⟨by decide, by decide⟩ rfl q_X2_9 in_X1 ini_X1 (by decide) (by omega) (by omega) ?_
      rw [i0]
      refine x_dup dX2_init_32 rfl ?_
      refine x_callI (As := []) hO dX2_init_33 o_X1_init rfl rfl i_X1_init l_X2_17 ⟨by decide, by decide⟩ ⟨show 12 ≤ k - 1 by omega, show 104 ≤ n - 11 by omega⟩ rfl rfl (Nat.le_of_ble_eq_true rfl) (s_X1_init (d := h + 2 + 13 * i) hO hX (by rw [gz_wO, i0]) (by simp [gK_wO, i0]) (fun j => by simp [gI_wO, i0]) (fun C' e1 e2 e3 e4 => ?_))
      dsimp only [Option.toList, List.cons_append, List.nil_append]
      have E4 : Ag C1 C' (h + 2 + 13 * i) := Ag_trans (Ag_wO i0) e4 (Nat.le_refl _)
      obtain ⟨p1, p2, p3, p4, -⟩ := E4 h (by omega)
      obtain ⟨q1, q2, q3, q4, -⟩ := E4 (h + 1) (by omega)
      have kd := e2.1
      refine x_aast 26 i 14 hO dX2_init_36 (q1.trans i3) (Or.inr ⟨rfl, kd⟩) rfl (q2.trans i4) (by omega) (by decide) ?_
      refine x_iinc (v := nI 1) dX2_init_37 rfl (by decide) (by decide) ?_
      refine x_goto (tgt := 15) dX2_init_40 (by decide) ?_
      refine x_ls [(0, .ref h), (1, .int (nI (i + 1)))] ⟨rfl, (by rw [← nI_add]; rfl), trivial⟩ ?_
      refine ih (m - 1) (by omega) (i + 1) _ _ _ (by omega) (by omega) ?_ ?_ ?_
      · show 13 * (14 - (i + 1)) ≤ k - 1 - 12
        omega
      · show 115 * (14 - (i + 1)) ≤ n - 11 - 104
        omega
      refine ⟨?_, p1.trans i1, ?_, q1.trans i3, q2.trans i4, fun j hj => ?_, fun j => (p3 j).trans (i6 j), fun a ha => ?_⟩
      · rw [gz_wR, e1]; omega
      · rw [gR_wR, up2_n (by omega), p4]; exact i2
      · rw [gR_wR]
        by_cases e : j = i
        · subst e
          rw [up2_s]
          exact ⟨rfl, SkD_A e2 fun q h1 h2 => ⟨rfl, rfl, fun _ => rfl, fun j9 => by rw [gR_wR, up2_n (by omega)], fun _ => rfl⟩⟩
        · rw [up2_n (by omega), q4]
          refine ⟨(i5 j (by omega)).1, SkD_A (i5 j (by omega)).2 fun q h1 h2 => ?_⟩
          obtain ⟨s1, s2, s3, s4, s5⟩ := E4 q (by omega)
          exact ⟨s1, s2, s3, fun j9 => by rw [gR_wR, up2_n (by omega)]; exact s4 j9, s5⟩
      · obtain ⟨s1, s2, s3, s4, s5⟩ := Ag_trans i7 E4 (by omega) a ha
        exact ⟨s1, s2, s3, fun j9 => by rw [gR_wR, up2_n (by omega)]; exact s4 j9, s5⟩
  refine x_aload_n dX2_init_0 rfl ?_
  refine x_objI hO dX2_init_1 l_X2_3 i_obj c_obj ⟨by decide, by decide⟩ (Nat.le_of_ble_eq_true rfl) ?_
  refine x_aload_n dX2_init_4 rfl ?_
  refine x_bipush (v := nI 14) dX2_init_5 (by decide) ?_
  refine x_anew 26 _ hO dX2_init_7 (by decide) rfl q_X2_9 (ao_X1 hO) rfl (by decide) (by decide) (by decide) ?_
  simp only [gz_wO, gz_wR, gz_wI, hz, Nat.add_assoc, Nat.reduceAdd]
  refine x_putR (r := some _) 4 hO dX2_init_10 f_X2_11 (fw_4_0) (by simp [gz_wO, gz_wR, gz_wI, gK_wO, gK_wR, gK_wI, gN_wO, gN_wR, gN_wI, gI_wO, gI_wR, gI_wI, gR_wO, gR_wR, gR_wI, gJ_wO, gJ_wR, gJ_wI, up2, hz, hK, Nat.add_assoc]) ⟨by decide, by decide⟩ rfl rfl rfl ?_
  refine x_iconst (v := nI 0) dX2_init_13 (by decide) ?_
  refine x_istore_n dX2_init_14 (by decide) ?_
  refine x_ls [(0, .ref h), (1, .int (nI 0))] ⟨rfl, rfl, trivial⟩ ?_
  refine loop _ 0 _ _ _ rfl (by decide) (by decide) (by decide) ?_
  refine ⟨?_, ?_, ?_, ?_, ?_, fun j hj => absurd hj (Nat.not_lt_zero j), ?_, ?_⟩
  · simp [gz_wO, gz_wR, gz_wI, gK_wO, gK_wR, gK_wI, gN_wO, gN_wR, gN_wI, gI_wO, gI_wR, gI_wI, gR_wO, gR_wR, gR_wI, gJ_wO, gJ_wR, gJ_wI, up2, hz, hK, Nat.add_assoc]
  · simp [gz_wO, gz_wR, gz_wI, gK_wO, gK_wR, gK_wI, gN_wO, gN_wR, gN_wI, gI_wO, gI_wR, gI_wI, gR_wO, gR_wR, gR_wI, gJ_wO, gJ_wR, gJ_wI, up2, hz, hK, Nat.add_assoc]
  · simp [gz_wO, gz_wR, gz_wI, gK_wO, gK_wR, gK_wI, gN_wO, gN_wR, gN_wI, gI_wO, gI_wR, gI_wI, gR_wO, gR_wR, gR_wI, gJ_wO, gJ_wR, gJ_wI, up2, hz, hK, Nat.add_assoc]
  · simp [gz_wO, gz_wR, gz_wI, gK_wO, gK_wR, gK_wI, gN_wO, gN_wR, gN_wI, gI_wO, gI_wR, gI_wI, gR_wO, gR_wR, gR_wI, gJ_wO, gJ_wR, gJ_wI, up2, hz, hK, Nat.add_assoc]
  · simp [gz_wO, gz_wR, gz_wI, gK_wO, gK_wR, gK_wI, gN_wO, gN_wR, gN_wI, gI_wO, gI_wR, gI_wI, gR_wO, gR_wR, gR_wI, gJ_wO, gJ_wR, gJ_wI, up2, hz, hK, Nat.add_assoc]
  · intro j
    simp [gz_wO, gz_wR, gz_wI, gK_wO, gK_wR, gK_wI, gN_wO, gN_wR, gN_wI, gI_wO, gI_wR, gI_wI, gR_wO, gR_wR, gR_wI, gJ_wO, gJ_wR, gJ_wI, up2, hz, h0, Nat.add_assoc]
  · intro a ha
    simp [gz_wO, gz_wR, gz_wI, gK_wO, gK_wR, gK_wI, gN_wO, gN_wR, gN_wI, gI_wO, gI_wR, gI_wI, gR_wO, gR_wR, gR_wI, gJ_wO, gJ_wR, gJ_wI, up2, hz, Nat.add_assoc, show ¬ (a = h) by omega, show ¬ (a = h + 1) by omega]

def Tr (C C' : AH) (z b f v : Nat) : Prop := ∀ a, a < z → gK C' a = gK C a ∧ gN C' a = gN C a ∧ (∀ j, gI C' a j = gI C a j) ∧ (∀ j, gR C' a j = if a = b ∧ j = f then some v else gR C a j) ∧ ∀ j, gJ C' a j = gJ C a j
theorem Tr_of {C C' : AH} {κ n z b f v : Nat} (hz : gz C = z) (h : Ag (wO C κ n) C' z) : Tr C (wR C' (up2 (gR C') b f (some v))) z b f v := fun a ha => by
  obtain ⟨p1, p2, p3, p4, p5⟩ := Ag_trans (Ag_wO hz) h (Nat.le_refl _) a ha
  refine ⟨p1, p2, p3, fun j => ?_, p5⟩
  rw [gR_wR, ← p4 j]
  rfl
theorem Tr_Sm {C C' : AH} {z b f v c d : Nat} (h : Tr C C' z b f v) (hd : d ≤ z) (hb : b < c ∨ d ≤ b) : Sm C C' c d := fun q h1 h2 => by
  obtain ⟨p1, p2, p3, p4, p5⟩ := h q (by omega)
  exact ⟨p1, p2, p3, fun j => by rw [p4, if_neg (by omega)], p5⟩
def J1 (C : AH) (x : Nat) : Prop := gR C x 0 = some (x + 1) ∧ TxS C (x + 1) ∧ TxV (gI C) (x + 1) (fun _ => 0) 0
def J2 (C : AH) (x : Nat) : Prop := gR C x 1 = some (x + 4) ∧ SkD C (x + 4) ∧ VaD (gI C) (x + 4) new0
def J3 (C : AH) (x : Nat) : Prop := gR C x 2 = some (x + 17) ∧ HiS C (x + 17) (fun i => i) ∧ HiV (gI C) (x + 17) (fun i => i) []
def J4 (C : AH) (x : Nat) : Prop := gR C x 3 = some (x + 201) ∧ gK C (x + 201) = 26 ∧ gN C (x + 201) = 2
def J5 (C : AH) (x : Nat) : Prop := gR C x 4 = some (x + 202) ∧ gK C (x + 202) = 21 ∧ gN C (x + 202) = 2 ∧ ∀ j, gI C (x + 202) j = 0
def J6 (C : AH) (x : Nat) : Prop := gR C x 5 = some (x + 203) ∧ SkD C (x + 203)
def J7 (C : AH) (x : Nat) : Prop := gR C x 6 = some (x + 216) ∧ SkD C (x + 216)
def J8 (C : AH) (x : Nat) : Prop := gR C (x + 201) 0 = some (x + 229) ∧ SkD C (x + 229)
def J9 (C : AH) (x : Nat) : Prop := gR C (x + 201) 1 = some (x + 242) ∧ SkD C (x + 242)
section JT
variable {C C' : AH} {x z b f v : Nat}
theorem T_K (h : Tr C C' z b f v) (hz : x < z) (hj : gK C x = 6) : gK C' x = 6 := (h x hz).1.trans hj
theorem T_R {a j w : Nat} (h : Tr C C' z b f v) (hz : a < z) (hn : ¬ (a = b ∧ j = f)) (hj : gR C a j = some w) : gR C' a j = some w := by
  rw [(h a hz).2.2.2.1 j, if_neg hn]; exact hj
theorem T_W (h : Tr C C' z b f v) (hz : b < z) : gR C' b f = some v := by
  rw [(h b hz).2.2.2.1 f, if_pos ⟨rfl, rfl⟩]
theorem T_J1 (h : Tr C C' z b f v) (hz : x + 4 ≤ z) (hn : b = x ∧ f ≠ 0 ∨ x + 4 ≤ b) (hj : J1 C x) : J1 C' x := by
  have e := Tr_Sm h (c := x + 1) (d := x + 1 + 3) (by omega) (by omega)
  exact ⟨T_R h (by omega) (by omega) hj.1, TxS_A hj.2.1 e, TxV_A hj.2.2 e⟩
theorem T_J2 (h : Tr C C' z b f v) (hz : x + 17 ≤ z) (hn : b = x ∧ f ≠ 1 ∨ x + 17 ≤ b) (hj : J2 C x) : J2 C' x := by
  have e := Tr_Sm h (c := x + 4) (d := x + 4 + 13) (by omega) (by omega)
  exact ⟨T_R h (by omega) (by omega) hj.1, SkD_A hj.2.1 e, VaD_A Ok_new.1 hj.2.2 e⟩
theorem T_J3 (h : Tr C C' z b f v) (hz : x + 201 ≤ z) (hn : b = x ∧ f ≠ 2 ∨ x + 201 ≤ b) (hj : J3 C x) : J3 C' x := by
  have e := Tr_Sm h (c := x + 17) (d := x + 17 + 184) (by omega) (by omega)
  exact ⟨T_R h (by omega) (by omega) hj.1, HiS_A hj.2.1 e, HiV_A hj.2.1 hj.2.2 e⟩
theorem T_J4 (h : Tr C C' z b f v) (hz : x + 202 ≤ z) (hn : b = x ∧ f ≠ 3 ∨ x + 201 ≤ b) (hj : J4 C x) : J4 C' x :=
  ⟨T_R h (by omega) (by omega) hj.1, (h (x + 201) (by omega)).1.trans hj.2.1, (h (x + 201) (by omega)).2.1.trans hj.2.2⟩
theorem T_J5 (h : Tr C C' z b f v) (hz : x + 203 ≤ z) (hn : b = x ∧ f ≠ 4 ∨ x + 201 ≤ b) (hj : J5 C x) : J5 C' x :=
  ⟨T_R h (by omega) (by omega) hj.1, (h (x + 202) (by omega)).1.trans hj.2.1, (h (x + 202) (by omega)).2.1.trans hj.2.2.1, fun j => ((h (x + 202) (by omega)).2.2.1 j).trans (hj.2.2.2 j)⟩
theorem T_J6 (h : Tr C C' z b f v) (hz : x + 216 ≤ z) (hn : b = x ∧ f ≠ 5 ∨ b = x + 201) (hj : J6 C x) : J6 C' x :=
  ⟨T_R h (by omega) (by omega) hj.1, SkD_A hj.2 (Tr_Sm h (by omega) (by omega))⟩
theorem T_J7 (h : Tr C C' z b f v) (hz : x + 229 ≤ z) (hn : b = x ∧ f ≠ 6 ∨ b = x + 201) (hj : J7 C x) : J7 C' x :=
  ⟨T_R h (by omega) (by omega) hj.1, SkD_A hj.2 (Tr_Sm h (by omega) (by omega))⟩
theorem T_J8 (h : Tr C C' z b f v) (hz : x + 242 ≤ z) (hn : b = x + 201 ∧ f ≠ 0) (hj : J8 C x) : J8 C' x :=
  ⟨T_R h (by omega) (by omega) hj.1, SkD_A hj.2 (Tr_Sm h (by omega) (by omega))⟩
theorem T_Ag {C0 : AH} {x0 : Nat} (h : Tr C C' z b f v) (hz : x0 ≤ z) (hb : x0 ≤ b) (hj : Ag C0 C x0) : Ag C0 C' x0 := fun a ha => by
  obtain ⟨p1, p2, p3, p4, p5⟩ := h a (by omega)
  obtain ⟨q1, q2, q3, q4, q5⟩ := hj a ha
  exact ⟨p1.trans q1, p2.trans q2, fun j => (p3 j).trans (q3 j), fun j => by rw [p4, if_neg (by omega)]; exact q4 j, fun j => (p5 j).trans (q5 j)⟩
end JT

