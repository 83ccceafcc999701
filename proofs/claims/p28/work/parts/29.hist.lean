/-! the history *)-/
theorem VaD_in {g f : Nat → Nat → Int32} {d : Nat} {ρ : Rw} (hW : Wf ρ) (hV : VaD g d ρ) (h : ∀ a, d ≤ a → a < d + 13 → f a = g a) : VaD f d ρ := by
  have w1 : ρ 1 ≤ 8 := hW.1
  exact VaD_same hV (h d (by omega) (by omega)) (h (d + 2) (by omega) (by omega)) (h (d + 3) (by omega) (by omega)) (h (d + 4) (by omega) (by omega)) fun b hb w _ => by rw [h (d + 5 + b) (by omega) (by omega)]
theorem SkD_R {C C' : AH} {d : Nat} (hS : SkD C d) (hK : gK C' = gK C) (hN : gN C' = gN C) (h : ∀ a, a < d + 13 → d ≤ a → gR C' a = gR C a) : SkD C' d := by
  unfold SkD
  rw [hK, hN, h d (by omega) (by omega), h (d + 1) (by omega) (by omega)]
  exact hS
/-- a history at h whose i-th state lies in row π i -/
def HiS (C : AH) (h : Nat) (π : Nat → Nat) : Prop := gK C h = 4 ∧ gR C h 0 = some (h + 1) ∧ gK C (h + 1) = 26 ∧ gN C (h + 1) = 14 ∧ (∀ i, i < 14 → gR C (h + 1) i = some (h + 2 + 13 * π i) ∧ π i < 14) ∧ (∀ i j, i < 14 → j < 14 → π i = π j → i = j) ∧ ∀ j, j < 14 → SkD C (h + 2 + 13 * j)
def HiV (f : Nat → Nat → Int32) (h : Nat) (π : Nat → Nat) (L : List Rw) : Prop := f h 1 = nI L.length ∧ L.length ≤ 14 ∧ ∀ i ρ, L[i]? = some ρ → Wf ρ ∧ VaD f (h + 2 + 13 * π i) ρ
def rem14 (L : List Rw) (ρ : Rw) : List Rw := if L.length < 14 then L ++ [ρ] else L.tail ++ [ρ]
theorem HiS_R {C C' : AH} {h : Nat} {π σ : Nat → Nat} (hH : HiS C h π) (hK : gK C' = gK C) (hN : gN C' = gN C) (hR : ∀ a, a ≠ h + 1 → gR C' a = gR C a) (h1 : ∀ i, i < 14 → gR C' (h + 1) i = some (h + 2 + 13 * σ i) ∧ σ i < 14) (h2 : ∀ i j, i < 14 → j < 14 → σ i = σ j → i = j) : HiS C' h σ := by
  obtain ⟨a1, a2, a3, a4, a5, a6, a7⟩ := hH
  refine ⟨by rw [hK]; exact a1, by rw [hR h (by omega)]; exact a2, by rw [hK]; exact a3, by rw [hN]; exact a4, h1, h2, fun j hj => SkD_R (a7 j hj) hK hN fun a _ _ => hR a (by omega)⟩

theorem s_isEmpty {G : GT} {C : AH} {Q : QT} {X : XT} {h n : Nat} (hO : GO G) (hK : gK C h = 4) (hc : gI C h 1 = nI n) (hn : n ≤ 14) (hq : ∀ r : Int32, r = (if n = 0 then 1 else 0) → Q (some (.int r)) C) : Mt G M_X2_isEmpty [.ref h] C Q X := by
  refine Mt_of (by decide) (Nat.le_of_ble_eq_true rfl) ?_
  refine x_aload_n dX2_isEmpty_0 rfl ?_
  refine x_get 4 hO dX2_isEmpty_1 f_X2_18 (by first | (simp only [gK_wI]; assumption) | assumption) ⟨by decide, by decide⟩ (v := .int (nI n)) (congrArg Value.int hc) ?_
  refine x_if_gt (tgt := 11) dX2_isEmpty_4 (by decide) (fun c4 => ?_) (fun c4 => ?_)
  · have e0 : ¬ n = 0 := fun e => by subst e; exact absurd c4 (by decide)
    refine x_iconst (v := nI 0) dX2_isEmpty_11 (by decide) ?_
    refine x_iret dX2_isEmpty_12 rfl (by first | rfl | assumption) ?_
    exact hq _ (by first | (rw [if_pos (by omega)]; rfl) | (rw [if_neg (by omega)]; rfl))
  · have e0 : n = 0 := by
      by_cases e : n = 0
      · exact e
      · exact absurd (by rw [← nI_0]; simp (disch := omega) only [nI_ltI]; omega) c4
    refine x_iconst (v := nI 1) dX2_isEmpty_7 (by decide) ?_
    refine x_goto (tgt := 12) dX2_isEmpty_8 (by decide) ?_
    refine x_iret dX2_isEmpty_12 rfl (by first | rfl | assumption) ?_
    exact hq _ (by first | (rw [if_pos (by omega)]; rfl) | (rw [if_neg (by omega)]; rfl))
theorem s_forgetAll {G : GT} {C : AH} {Q : QT} {X : XT} {h : Nat} (hO : GO G) (hK : gK C h = 4) (hq : Q none (wI C (up2 (gI C) h 1 (nI 0)))) : Mt G M_X2_forgetAll [.ref h] C Q X := by
  refine Mt_of (by decide) (Nat.le_of_ble_eq_true rfl) ?_
  refine x_aload_n dX2_forgetAll_0 rfl ?_
  refine x_iconst (v := nI 0) dX2_forgetAll_1 (by decide) ?_
  refine x_putI 4 hO dX2_forgetAll_2 f_X2_18 (fw_4_1 _) (by first | (simp only [gK_wI]; assumption) | assumption) ⟨by decide, by decide⟩ rfl rfl ?_
  refine x_ret dX2_forgetAll_5 rfl ?_
  exact hq

theorem nI_im {i : Nat} (h : 1 ≤ i) : nI i - nI 1 = nI (i - 1) := by
  obtain ⟨j, rfl⟩ : ∃ j, i = j + 1 := ⟨i - 1, by omega⟩
  exact nI_pred j
theorem wR_wR {C : AH} {f g : Nat → Nat → Option Nat} : wR (wR C f) g = wR C g := rfl
theorem s_forgetOldest {G : GT} {C : AH} {Q : QT} {X : XT} {h : Nat} {π : Nat → Nat} (hO : GO G) (hH : HiS C h π) (hq : ∀ R : Nat → Nat → Option Nat, (∀ a, a ≠ h + 1 → R a = gR C a) → (∀ i, i < 13 → R (h + 1) i = some (h + 2 + 13 * π (i + 1))) → R (h + 1) 13 = some (h + 2 + 13 * π 0) → Q none (wI (wR C R) (up2 (gI C) h 1 (nI 13)))) : Mt G M_X2_forgetOldest [.ref h] C Q X := by
  refine Mt_of (by decide) (Nat.le_of_ble_eq_true rfl) ?_
  obtain ⟨a1, a2, a3, a4, a5, a6, a7⟩ := id hH
  have k0 : gK C (h + 2 + 13 * π 0) = 3 := (a7 _ (a5 0 (by omega)).2).1
  have loop : ∀ (m i : Nat) (R : Nat → Nat → Option Nat), 14 - i = m → 1 ≤ i → i ≤ 14 → (∀ a, a ≠ h + 1 → R a = gR C a) → (∀ j, j + 1 < i → R (h + 1) j = gR C (h + 1) (j + 1)) → (∀ j, i ≤ j → j < 14 → R (h + 1) j = gR C (h + 1) j) → Ex G M_X2_forgetOldest Q X (mC M_X2_forgetOldest) (mS M_X2_forgetOldest) 9 [(0, .ref h), (1, .ref (h + 2 + 13 * π 0)), (2, .int (nI i))] [] (wR C R) := by
    intro m
    induction m using Nat.strongRecOn with
    | _ m ih =>
    intro i R hm hi1 hi14 hfr hlo hhi
    have s0 : fV (wR C R) 4 h 0 = .ref (h + 1) := congrArg va_rf ((congrFun (hfr h (by omega)) 0).trans a2)
    refine x_iload_n dX2_forgetOldest_9 rfl ?_
    refine x_aload_n dX2_forgetOldest_10 rfl ?_
    refine x_get 4 hO dX2_forgetOldest_11 f_X2_11 (by first | assumption | (simp only [gK_wR]; assumption)) ⟨by decide, by decide⟩ (v := .ref (h + 1)) s0 ?_
    refine x_alen 26 _ hO dX2_forgetOldest_14 (by first | assumption | (simp only [gK_wR]; assumption)) ⟨by decide, by decide⟩ (by first | assumption | (simp only [gN_wR]; assumption)) ?_
    refine x_icmp_ge (tgt := 38) dX2_forgetOldest_15 (by decide) (fun c15 => ?_) (fun c15 => ?_)
    · simp (disch := omega) only [nI_leI] at c15
      refine x_aload_n dX2_forgetOldest_38 rfl ?_
      refine x_get 4 hO dX2_forgetOldest_39 f_X2_11 (by first | assumption | (simp only [gK_wR]; assumption)) ⟨by decide, by decide⟩ (v := .ref (h + 1)) s0 ?_
      refine x_aload_n dX2_forgetOldest_42 rfl ?_
      refine x_get 4 hO dX2_forgetOldest_43 f_X2_11 (by first | assumption | (simp only [gK_wR]; assumption)) ⟨by decide, by decide⟩ (v := .ref (h + 1)) s0 ?_
      refine x_alen 26 _ hO dX2_forgetOldest_46 (by first | assumption | (simp only [gK_wR]; assumption)) ⟨by decide, by decide⟩ (by first | assumption | (simp only [gN_wR]; assumption)) ?_
      refine x_iconst (v := nI 1) dX2_forgetOldest_47 (by decide) ?_
      refine x_isub dX2_forgetOldest_48 ?_
      refine x_aload_n dX2_forgetOldest_49 rfl ?_
      refine x_aast 26 13 14 hO dX2_forgetOldest_50 (by first | assumption | (simp only [gK_wR]; assumption)) (Or.inr ⟨rfl, k0⟩) rfl (by first | assumption | (simp only [gN_wR]; assumption)) (by omega) (by decide) ?_
      refine x_aload_n dX2_forgetOldest_51 rfl ?_
      refine x_aload_n dX2_forgetOldest_52 rfl ?_
      refine x_get 4 hO dX2_forgetOldest_53 f_X2_11 (by first | assumption | (simp only [gK_wR]; assumption)) ⟨by decide, by decide⟩ (v := .ref (h + 1)) (congrArg va_rf ((up2_n (by omega)).trans ((congrFun (hfr h (by omega)) 0).trans a2))) ?_
      refine x_alen 26 _ hO dX2_forgetOldest_56 (by first | assumption | (simp only [gK_wR]; assumption)) ⟨by decide, by decide⟩ (by first | assumption | (simp only [gN_wR]; assumption)) ?_
      refine x_iconst (v := nI 1) dX2_forgetOldest_57 (by decide) ?_
      refine x_isub dX2_forgetOldest_58 ?_
      refine x_putI 4 hO dX2_forgetOldest_59 f_X2_18 (fw_4_1 _) (by first | assumption | (simp only [gK_wR]; assumption)) ⟨by decide, by decide⟩ rfl rfl ?_
      refine x_ret dX2_forgetOldest_62 rfl ?_
      simp only [wR_wR, gR_wR, gI_wR]
      refine hq _ ?_ ?_ ?_
      · intro a ha
        funext j
        rw [up2_n (fun q => ha q.1), hfr a ha]
      · intro j hj
        rw [up2_n (by omega), hlo j (by omega)]
        exact (a5 (j + 1) (by omega)).1
      · exact up2_s
    · simp (disch := omega) only [nI_leI] at c15
      have hn1 : R (h + 1) i = some (h + 2 + 13 * π i) := (hhi i (Nat.le_refl _) (by omega)).trans (a5 i (by omega)).1
      have kx : gK (wR C R) (h + 2 + 13 * π i) = 3 := (a7 _ (a5 i (by omega)).2).1
      refine x_aload_n dX2_forgetOldest_18 rfl ?_
      refine x_get 4 hO dX2_forgetOldest_19 f_X2_11 (by first | assumption | (simp only [gK_wR]; assumption)) ⟨by decide, by decide⟩ (v := .ref (h + 1)) s0 ?_
      refine x_iload_n dX2_forgetOldest_22 rfl ?_
      refine x_iconst (v := nI 1) dX2_forgetOldest_23 (by decide) ?_
      refine x_isub dX2_forgetOldest_24 ?_
      refine x_aload_n dX2_forgetOldest_25 rfl ?_
      refine x_get 4 hO dX2_forgetOldest_26 f_X2_11 (by first | assumption | (simp only [gK_wR]; assumption)) ⟨by decide, by decide⟩ (v := .ref (h + 1)) s0 ?_
      refine x_iload_n dX2_forgetOldest_29 rfl ?_
      refine x_aald 26 i 14 hO dX2_forgetOldest_30 (by first | assumption | (simp only [gK_wR]; assumption)) (by decide) rfl (by first | assumption | (simp only [gN_wR]; assumption)) (by omega) (by decide) ?_
      rw [show gR (wR C R) (h + 1) i = some (h + 2 + 13 * π i) from hn1]
      refine x_aast 26 (i - 1) 14 hO dX2_forgetOldest_31 (by first | assumption | (simp only [gK_wR]; assumption)) (Or.inr ⟨rfl, kx⟩) (nI_im hi1) (by first | assumption | (simp only [gN_wR]; assumption)) (by omega) (by decide) ?_
      refine x_iinc (v := nI 1) dX2_forgetOldest_32 rfl (by decide) (by decide) ?_
      refine x_goto (tgt := 9) dX2_forgetOldest_35 (by decide) ?_
      simp only [wR_wR, gR_wR]
      refine x_ls [(0, .ref h), (1, .ref (h + 2 + 13 * π 0)), (2, .int (nI (i + 1)))] ⟨rfl, rfl, (by rw [← nI_add]; rfl), trivial⟩ ?_
      refine ih (m - 1) (by omega) (i + 1) _ (by omega) (by omega) (by omega) ?_ ?_ ?_
      · intro a ha
        funext j
        rw [up2_n (fun q => ha q.1), hfr a ha]
      · intro j hj
        by_cases e : j + 1 = i
        · rw [show j = i - 1 by omega, up2_s, show i - 1 + 1 = i by omega, (a5 i (by omega)).1]
        · rw [up2_n (by omega)]
          exact hlo j (by omega)
      · intro j hj1 hj2
        rw [up2_n (by omega)]
        exact hhi j (by omega) hj2
  refine x_aload_n dX2_forgetOldest_0 rfl ?_
  refine x_get 4 hO dX2_forgetOldest_1 f_X2_11 (by first | (simp only [gK_wI]; assumption) | assumption) ⟨by decide, by decide⟩ (v := .ref (h + 1)) (congrArg va_rf a2) ?_
  refine x_iconst (v := nI 0) dX2_forgetOldest_4 (by decide) ?_
  refine x_aald 26 0 14 hO dX2_forgetOldest_5 (by first | (simp only [gK_wI]; assumption) | assumption) (by decide) rfl (by first | (simp only [gN_wI]; assumption) | assumption) (by omega) (by decide) ?_
  rw [(a5 0 (by omega)).1]
  refine x_astore_n (x := h + 2 + 13 * π 0) dX2_forgetOldest_6 (by decide) ?_
  refine x_iconst (v := nI 1) dX2_forgetOldest_7 (by decide) ?_
  refine x_istore_n dX2_forgetOldest_8 (by decide) ?_
  refine x_ls [(0, .ref h), (1, .ref (h + 2 + 13 * π 0)), (2, .int (nI 1))] ⟨rfl, rfl, rfl, trivial⟩ ?_
  exact loop _ 1 (gR C) rfl (by decide) (by decide) (fun _ _ => rfl) (fun j hj => absurd hj (by omega)) (fun _ _ _ => rfl)

theorem s_remember {G : GT} {C : AH} {Q : QT} {X : XT} {d : Nat} {ρ : Rw} {h : Nat} {π : Nat → Nat} {L : List Rw} (hO : GO G) (hH : HiS C h π) (hL : HiV (gI C) h π L) (hS : SkD C d) (hV : VaD (gI C) d ρ) (hW : Wf ρ) (hdj : d + 13 ≤ h ∨ h + 184 ≤ d) (hq : ∀ (R : Nat → Nat → Option Nat) (f : Nat → Nat → Int32) (σ : Nat → Nat), (∀ a, a ≠ h + 1 → R a = gR C a) → (∀ a, (a < h ∨ h + 184 ≤ a) → f a = gI C a) → HiS (wI (wR C R) f) h σ → HiV f h σ (rem14 L ρ) → Q none (wI (wR C R) f)) : Mt G M_X2_remember [.ref h, .ref d] C Q X := by
  refine Mt_of (by decide) (Nat.le_of_ble_eq_true rfl) ?_
  obtain ⟨a1, a2, a3, a4, a5, a6, a7⟩ := id hH
  obtain ⟨v1, v2, v3⟩ := id hL
  have half : ∀ (R : Nat → Nat → Option Nat) (f : Nat → Nat → Int32) (σ : Nat → Nat) (L2 : List Rw), HiS (wI (wR C R) f) h σ → HiV f h σ L2 → L2.length < 14 → L2 ++ [ρ] = rem14 L ρ → (∀ a, a ≠ h + 1 → R a = gR C a) → (∀ a, (a < h ∨ h + 184 ≤ a) → f a = gI C a) → Ex G M_X2_remember Q X (mC M_X2_remember) (mS M_X2_remember) 16 [(0, .ref h), (1, .ref d)] [] (wI (wR C R) f) := by
    intro R f σ L2 hH2 hL2 hl2 hre hRR hff
    obtain ⟨b1, b2, b3, b4, b5, b6, b7⟩ := id hH2
    obtain ⟨v1, v2, v3⟩ := id hL2
    have hSd : SkD (wI (wR C R) f) d := SkD_R hS rfl rfl fun a h1 h2 => hRR a (by omega)
    have hVd : VaD f d ρ := VaD_in hW hV fun a h1 h2 => hff a (by omega)
    have hsl := (b5 L2.length hl2).2
    have kb7 := (b7 _ hsl).1
    have s0 : fV (wI (wR C R) f) 4 h 0 = .ref (h + 1) := congrArg va_rf b2
    have s1 : fV (wI (wR C R) f) 4 h 1 = .int (nI L2.length) := congrArg Value.int v1
    refine x_aload_n dX2_remember_16 rfl ?_
    refine x_get 4 hO dX2_remember_17 f_X2_11 (by first | (simp only [gK_wI]; assumption) | assumption) ⟨by decide, by decide⟩ (v := .ref (h + 1)) s0 ?_
    refine x_aload_n dX2_remember_20 rfl ?_
    refine x_get 4 hO dX2_remember_21 f_X2_18 (by first | (simp only [gK_wI]; assumption) | assumption) ⟨by decide, by decide⟩ (v := .int (nI L2.length)) s1 ?_
    refine x_aald 26 L2.length 14 hO dX2_remember_24 (by first | (simp only [gK_wI]; assumption) | assumption) (by decide) rfl (by first | (simp only [gN_wI]; assumption) | assumption) (by omega) (by decide) ?_
    rw [(b5 L2.length hl2).1]
    refine x_aload_n dX2_remember_25 rfl ?_
    refine x_callV (As := [_]) 3 hO dX2_remember_26 o_X1_becomeLike v_X1_becomeLike l_X2_25 ⟨by decide, by decide⟩ (by first | (simp only [gK_wI]; assumption) | assumption) ⟨by decide, by decide⟩ rfl ⟨by decide, by decide⟩ rfl rfl (Nat.le_of_ble_eq_true rfl) (s_becomeLike (C := wI (wR C R) f) hO (b7 _ hsl) hSd hVd hW (by omega) (fun f4 hf3 hf4 => ?_))
    dsimp only [Option.toList, List.cons_append, List.nil_append]
    refine x_aload_n dX2_remember_29 rfl ?_
    refine x_dup dX2_remember_30 rfl ?_
    have hf1c : f4 h 1 = nI L2.length := (congrFun (hf4 h (by omega)) 1).trans v1
    refine x_get 4 hO dX2_remember_31 f_X2_18 (by first | (simp only [gK_wI]; assumption) | assumption) ⟨by decide, by decide⟩ (v := .int _) rfl ?_
    refine x_iconst (v := nI 1) dX2_remember_34 (by decide) ?_
    refine x_iadd dX2_remember_35 ?_
    refine x_putI 4 hO dX2_remember_36 f_X2_18 (fw_4_1 _) (by first | (simp only [gK_wI]; assumption) | assumption) ⟨by decide, by decide⟩ rfl rfl ?_
    refine x_ret dX2_remember_39 rfl ?_
    simp only [wI_wI, gI_wI]
    rw [hf1c, nI_add]
    refine hq R _ σ hRR ?_ ?_ ?_
    · intro a ha
      funext j
      rw [up2_n (by omega), hf4 a (by omega)]
      exact congrFun (hff a ha) j
    · exact HiS_R hH2 rfl rfl (fun _ _ => rfl) b5 b6
    · rw [← hre]
      refine ⟨by rw [up2_s, List.length_append]; rfl, by rw [List.length_append]; exact hl2, fun i ρ9 hi => ?_⟩
      by_cases e : i < L2.length
      · rw [List.getElem?_append_left e] at hi
        refine ⟨(v3 i ρ9 hi).1, VaD_in (v3 i ρ9 hi).1 (v3 i ρ9 hi).2 fun a ha1 ha2 => ?_⟩
        have hne : σ i ≠ σ L2.length := fun q => by have := b6 i L2.length (by omega) (by omega) q; omega
        have := (b5 i (by omega)).2
        have := (b5 L2.length (by omega)).2
        funext j
        rw [up2_n (by omega), hf4 a (by omega)]
        rfl
      · have e2 : i = L2.length := by
          have := (List.getElem?_eq_some_iff.mp hi).1
          rw [List.length_append] at this
          have : i < L2.length + 1 := this
          omega
        subst e2
        rw [List.getElem?_append_right (Nat.le_refl _), Nat.sub_self] at hi
        cases hi
        refine ⟨hW, VaD_in hW hf3 fun a ha1 ha2 => ?_⟩
        funext j
        rw [up2_n (by omega)]
  by_cases hl : L.length < 14
  · have hgo := half (gR C) (gI C) π L hH hL hl (by unfold rem14; rw [if_pos hl]) (fun _ _ => rfl) (fun _ _ => rfl)
    refine x_aload_n dX2_remember_0 rfl ?_
    refine x_get 4 hO dX2_remember_1 f_X2_18 (by first | (simp only [gK_wI]; assumption) | assumption) ⟨by decide, by decide⟩ (v := .int (nI L.length)) (congrArg Value.int v1) ?_
    refine x_aload_n dX2_remember_4 rfl ?_
    refine x_get 4 hO dX2_remember_5 f_X2_11 (by first | (simp only [gK_wI]; assumption) | assumption) ⟨by decide, by decide⟩ (v := .ref (h + 1)) (congrArg va_rf a2) ?_
    refine x_alen 26 _ hO dX2_remember_8 (by first | (simp only [gK_wI]; assumption) | assumption) ⟨by decide, by decide⟩ (by first | (simp only [gN_wI]; assumption) | assumption) ?_
    refine x_icmp_lt (tgt := 16) dX2_remember_9 (by decide) (fun c9 => ?_) (fun c9 => ?_)
    · exact hgo
    · simp (disch := omega) only [nI_ltI] at c9
      omega
  · have hl14 : L.length = 14 := by omega
    refine x_aload_n dX2_remember_0 rfl ?_
    refine x_get 4 hO dX2_remember_1 f_X2_18 (by first | (simp only [gK_wI]; assumption) | assumption) ⟨by decide, by decide⟩ (v := .int (nI L.length)) (congrArg Value.int v1) ?_
    refine x_aload_n dX2_remember_4 rfl ?_
    refine x_get 4 hO dX2_remember_5 f_X2_11 (by first | (simp only [gK_wI]; assumption) | assumption) ⟨by decide, by decide⟩ (v := .ref (h + 1)) (congrArg va_rf a2) ?_
    refine x_alen 26 _ hO dX2_remember_8 (by first | (simp only [gK_wI]; assumption) | assumption) ⟨by decide, by decide⟩ (by first | (simp only [gN_wI]; assumption) | assumption) ?_
    refine x_icmp_lt (tgt := 16) dX2_remember_9 (by decide) (fun c9 => ?_) (fun c9 => ?_)
    · simp (disch := omega) only [nI_ltI] at c9
      omega
    · refine x_aload_n dX2_remember_12 rfl ?_
      refine x_callV (As := []) 4 hO dX2_remember_13 o_X2_forgetOldest v_X2_forgetOldest l_X2_22 ⟨by decide, by decide⟩ (by first | (simp only [gK_wI]; assumption) | assumption) ⟨by decide, by decide⟩ rfl ⟨by decide, by decide⟩ rfl rfl (Nat.le_of_ble_eq_true rfl) (s_forgetOldest hO hH (fun R r1 r2 r3 => ?_))
      dsimp only [Option.toList, List.cons_append, List.nil_append]
      refine half R _ (fun i => if i = 13 then π 0 else π (i + 1)) L.tail ?_ ?_ ?_ ?_ r1 ?_
      · refine HiS_R hH rfl rfl r1 (fun i hi => ?_) (fun i j hi hj => ?_)
        · by_cases e : i = 13
          · subst e
            exact ⟨r3, (a5 0 (by omega)).2⟩
          · simp only [if_neg e]
            exact ⟨r2 i (by omega), (a5 (i + 1) (by omega)).2⟩
        · by_cases e : i = 13 <;> by_cases e2 : j = 13 <;> simp only [e, e2, if_true, if_false]
          · exact fun _ => trivial
          · intro q
            have := a6 0 (j + 1) (by omega) (by omega) q
            omega
          · intro q
            have := a6 (i + 1) 0 (by omega) (by omega) q
            omega
          · intro q
            have := a6 (i + 1) (j + 1) (by omega) (by omega) q
            omega
      · refine ⟨by rw [up2_s, List.length_tail, hl14], by rw [List.length_tail]; omega, fun i ρ9 hi => ?_⟩
        rw [List.getElem?_tail] at hi
        have hi2 := (List.getElem?_eq_some_iff.mp hi).1
        have := (a5 (i + 1) (by omega)).2
        simp only [show ¬ (i = 13) by omega, if_false]
        refine ⟨(v3 (i + 1) ρ9 hi).1, VaD_in (v3 (i + 1) ρ9 hi).1 (v3 (i + 1) ρ9 hi).2 fun a ha1 ha2 => ?_⟩
        funext j
        rw [up2_n (by omega)]
      · rw [List.length_tail]; omega
      · unfold rem14; rw [if_neg hl]
      · intro a ha
        funext j
        rw [up2_n (by omega)]

theorem s_takeBack {G : GT} {C : AH} {Q : QT} {X : XT} {d : Nat} {ρ : Rw} {h : Nat} {π : Nat → Nat} {L : List Rw} (hO : GO G) (hH : HiS C h π) (hL : HiV (gI C) h π (L ++ [ρ])) (hS : SkD C d) (hdj : d + 13 ≤ h ∨ h + 184 ≤ d) (hq : ∀ f : Nat → Nat → Int32, VaD f d ρ → (∀ a, a ≠ h → (a < d ∨ d + 13 ≤ a) → f a = gI C a) → HiV f h π L → Q (some (.int (nI L.length))) (wI C f)) : Mt G M_X2_takeBack [.ref h, .ref d] C Q X := by
  refine Mt_of (by decide) (Nat.le_of_ble_eq_true rfl) ?_
  obtain ⟨a1, a2, a3, a4, a5, a6, a7⟩ := id hH
  obtain ⟨v1, v2, v3⟩ := id hL
  rw [List.length_append] at v1 v2
  have v2 : L.length + 1 ≤ 14 := v2
  have v1 : gI C h 1 = nI (L.length + 1) := v1
  have hlast : (L ++ [ρ])[L.length]? = some ρ := by rw [List.getElem?_append_right (Nat.le_refl _), Nat.sub_self]; rfl
  obtain ⟨hW, hVl⟩ := v3 _ _ hlast
  have hKd := hS.1
  have hsl := (a5 L.length (by omega)).2
  have kb7 := (a7 _ hsl).1
  refine x_aload_n dX2_takeBack_0 rfl ?_
  refine x_callV (As := []) 4 hO dX2_takeBack_1 o_X2_isEmpty v_X2_isEmpty l_X2_29 ⟨by decide, by decide⟩ (by first | (simp only [gK_wI]; assumption) | assumption) ⟨by decide, by decide⟩ rfl ⟨by decide, by decide⟩ rfl rfl (Nat.le_of_ble_eq_true rfl) (s_isEmpty hO a1 v1 v2 (fun r1 hr1 => ?_))
  dsimp only [Option.toList, List.cons_append, List.nil_append]
  refine x_if_ne (tgt := 30) dX2_takeBack_4 (by decide) (fun c4 => ?_) (fun c4 => ?_)
  · exact absurd ((ite01 hr1).2 c4) (by omega)
  · have p1 := (ite01 hr1).1 c4
    have hV4 : VaD (up2 (gI C) h 1 (nI L.length)) (h + 2 + 13 * π L.length) ρ := VaD_in hW hVl fun a ha1 ha2 => by
      funext j
      rw [up2_n (by omega)]
    refine x_aload_n dX2_takeBack_7 rfl ?_
    refine x_dup dX2_takeBack_8 rfl ?_
    refine x_get 4 hO dX2_takeBack_9 f_X2_18 (by first | (simp only [gK_wI]; assumption) | assumption) ⟨by decide, by decide⟩ (v := .int (nI (L.length + 1))) (congrArg Value.int v1) ?_
    refine x_iconst (v := nI 1) dX2_takeBack_12 (by decide) ?_
    skip
    refine x_isub dX2_takeBack_13 ?_
    rw [show nI (L.length + 1) - nI 1 = nI L.length from nI_pred _]
    refine x_putI 4 hO dX2_takeBack_14 f_X2_18 (fw_4_1 _) (by first | (simp only [gK_wI]; assumption) | assumption) ⟨by decide, by decide⟩ rfl rfl ?_
    refine x_aload_n dX2_takeBack_17 rfl ?_
    refine x_aload_n dX2_takeBack_18 rfl ?_
    refine x_get 4 hO dX2_takeBack_19 f_X2_11 (by first | (simp only [gK_wI]; assumption) | assumption) ⟨by decide, by decide⟩ (v := .ref (h + 1)) (congrArg va_rf a2) ?_
    refine x_aload_n dX2_takeBack_22 rfl ?_
    refine x_get 4 hO dX2_takeBack_23 f_X2_18 (by first | (simp only [gK_wI]; assumption) | assumption) ⟨by decide, by decide⟩ (v := .int (nI L.length)) (congrArg Value.int up2_s) ?_
    refine x_aald 26 L.length 14 hO dX2_takeBack_26 (by first | (simp only [gK_wI]; assumption) | assumption) (by decide) rfl (by first | (simp only [gN_wI]; assumption) | assumption) (by omega) (by decide) ?_
    rw [show gR (wI C (up2 (gI C) h 1 (nI L.length))) (h + 1) L.length = some (h + 2 + 13 * π L.length) from (a5 L.length (by omega)).1]
    refine x_callV (As := [_]) 3 hO dX2_takeBack_27 o_X1_becomeLike v_X1_becomeLike l_X2_25 ⟨by decide, by decide⟩ (by first | (simp only [gK_wI]; assumption) | assumption) ⟨by decide, by decide⟩ rfl ⟨by decide, by decide⟩ rfl rfl (Nat.le_of_ble_eq_true rfl) (s_becomeLike (C := wI C (up2 (gI C) h 1 (nI L.length))) hO hS (a7 _ hsl) hV4 hW (by omega) (fun f4 hf3 hf4 => ?_))
    dsimp only [Option.toList, List.cons_append, List.nil_append]
    have hfc : f4 h 1 = nI L.length := (congrFun (hf4 h (by omega)) 1).trans up2_s
    refine x_aload_n dX2_takeBack_30 rfl ?_
    refine x_get 4 hO dX2_takeBack_31 f_X2_18 (by first | (simp only [gK_wI]; assumption) | assumption) ⟨by decide, by decide⟩ (v := .int (nI L.length)) (congrArg Value.int hfc) ?_
    refine x_iret dX2_takeBack_34 rfl rfl ?_
    refine hq f4 hf3 (fun a ha1 ha2 => ?_) ?_
    · rw [hf4 a ha2]
      funext j
      exact up2_n (by omega)
    · refine ⟨hfc, by omega, fun i ρ9 hi => ?_⟩
      have hil := (List.getElem?_eq_some_iff.mp hi).1
      have hi2 : (L ++ [ρ])[i]? = some ρ9 := by rw [List.getElem?_append_left hil]; exact hi
      have := (a5 i (by omega)).2
      refine ⟨(v3 i ρ9 hi2).1, VaD_in (v3 i ρ9 hi2).1 (v3 i ρ9 hi2).2 fun a ha1 ha2 => ?_⟩
      rw [hf4 a (by omega)]
      funext j
      exact up2_n (by omega)

