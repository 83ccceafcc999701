/-! THE REFERENCE as a whole *)-/
def RMv (f : Nat → Nat → Int32) (m : Nat) (s : St) : Prop := f m 2 = nI s.2.1 ∧ (∀ i, i < s.2.1 → f (m + 1) i = nI (s.1 i)) ∧ Vr f (m + 4) s.2.2.1 ∧ f m 11 = nI s.2.2.2.1.length ∧ (∀ i σ, s.2.2.2.1[i]? = some σ → Vo f (m + 6) (74 * i) σ) ∧ ∀ i, i < 2 → (s.2.2.2.2 i = none → f (m + 8) i = 0) ∧ ∀ σ, s.2.2.2.2 i = some σ → f (m + 8) i = 1 ∧ Vo f (m + 7) (74 * i) σ
def RM (T : Nat) (C : AH) (m : Nat) (s : St) : Prop := OkS T s ∧ MdS C m ∧ RMv (gI C) m s
theorem RMv_to {f g : Nat → Nat → Int32} {m : Nat} {s : St} (h : RMv f m s) (e2 : g m 2 = f m 2) (e11 : g m 11 = f m 11) (e : ∀ k, k = 1 ∨ k = 4 ∨ k = 6 ∨ k = 7 ∨ k = 8 → g (m + k) = f (m + k)) : RMv g m s := by
  obtain ⟨a1, a2, a3, a4, a5, a6⟩ := h
  refine ⟨e2.trans a1, fun i hi => (congrFun (e 1 (by omega)) i).trans (a2 i hi), Vr_to a3 (e 4 (by omega)), e11.trans a4, fun i σ h j hj => (congrFun (e 6 (by omega)) _).trans (a5 i σ h j hj), fun i hi => ⟨fun h => (congrFun (e 8 (by omega)) i).trans ((a6 i hi).1 h), fun σ h => ⟨(congrFun (e 8 (by omega)) i).trans ((a6 i hi).2 σ h).1, fun j hj => (congrFun (e 7 (by omega)) _).trans (((a6 i hi).2 σ h).2 j hj)⟩⟩⟩
theorem RM_mono {T U : Nat} {C : AH} {m : Nat} {s : St} (h : RM T C m s) (hU : T ≤ U) : RM U C m s := ⟨OkS_mono h.1 hU, h.2⟩
/-- what else the heap holds may change *)-/
theorem RM_to {T : Nat} {C : AH} {f : Nat → Nat → Int32} {m : Nat} {s : St} (h : RM T C m s) (e2 : f m 2 = gI C m 2) (e11 : f m 11 = gI C m 11) (e : ∀ k, k = 1 ∨ k = 4 ∨ k = 6 ∨ k = 7 ∨ k = 8 → f (m + k) = gI C (m + k)) : RM T (wI C f) m s := ⟨h.1, h.2.1, RMv_to h.2.2 e2 e11 e⟩
theorem t_ref {G : GT} {C : AH} {Q : QT} {X : XT} {m T t : Nat} {s : St} (hO : GO G) (hR : RM T C m s) (ht : t < 5) (hq : ∀ (r : Int32) (f : Nat → Nat → Int32), r = (if 0 < t then 1 else 0) → f m 0 = nI t → RM T (wI C f) m s → (∀ a, a ≠ m → f a = gI C a) → Q (some (.int r)) (wI C f)) : Mt G M_X5_refused [.ref m, .int (nI t)] C Q X :=
  r_ref hO hR.2.1 ht fun r hr => hq r _ hr up2_s (RM_to hR (up2_n (by omega)) (up2_n (by omega)) fun k hk => up2_f (by omega)) fun a ha => up2_f ha
theorem r_tryIt {G : GT} {C : AH} {Q : QT} {X : XT} {m T n : Nat} {S : Nat → Nat} {ρ : Rw} {L : List Rw} {K : Nat → Option Rw} (hO : GO G) (hT : T ≤ 40000) (hR : RM T C m (S, n, ρ, L, K)) (hq : ∀ f : Nat → Nat → Int32, Vr f (m + 5) ρ → (∀ a, a ≠ m + 5 → f a = gI C a) → Q none (wI C f)) : Mt G M_X5_tryIt [.ref m] C Q X := by
  refine Mt_of (by decide) (Nat.le_of_ble_eq_true rfl) ?_
  obtain ⟨hk, hM, hv⟩ := id hR
  obtain ⟨hm0, ⟨g1, g6, g7, g8, g9, g10, g12, g13, g14, g15, g16, g17, g18⟩, k1, k2, k3, k4, k5, k6, k7, k8, k9, k10, k11, k12, k13, hmz⟩ := id hM
  obtain ⟨vn, vS, vN, vA, vH, vK⟩ : gI C m 2 = nI n ∧ (∀ i, i < n → gI C (m + 1) i = nI (S i)) ∧ Vr (gI C) (m + 4) ρ ∧ gI C m 11 = nI L.length ∧ (∀ i σ, L[i]? = some σ → Vo (gI C) (m + 6) (74 * i) σ) ∧ ∀ i, i < 2 → (K i = none → gI C (m + 8) i = 0) ∧ ∀ σ, K i = some σ → gI C (m + 8) i = 1 ∧ Vo (gI C) (m + 7) (74 * i) σ := hv
  obtain ⟨ok1, ok2, ok3, ok4, ok5, ok6⟩ : Ok T ρ ∧ (∀ σ, σ ∈ L → Ok T σ) ∧ (∀ i σ, K i = some σ → Ok T σ) ∧ n ≤ 120 ∧ (∀ i, i < n → S i < 256) ∧ L.length ≤ 14 := hk
  obtain ⟨hW, hB⟩ := id ok1
  obtain ⟨hb0, hb3, hb4, hb5, hb6, hb7⟩ := id hB
  obtain ⟨w1, w2, w7, w8, w9, w10, w11, w11', w12, wB, wP⟩ := id hW
  refine x_aload_n dX5_tryIt_0 rfl ?_
  refine x_get 7 hO dX5_tryIt_1 f_X5_19 (by first | (simp only [gK_wI]; assumption) | assumption) ⟨by decide, by decide⟩ (v := .ref (m + 4)) (congrArg va_rf g8) ?_
  refine x_iconst (v := nI 0) dX5_tryIt_4 (by decide) ?_
  refine x_aload_n dX5_tryIt_5 rfl ?_
  refine x_get 7 hO dX5_tryIt_6 f_X5_22 (by first | (simp only [gK_wI]; assumption) | assumption) ⟨by decide, by decide⟩ (v := .ref (m + 5)) (congrArg va_rf g9) ?_
  refine x_iconst (v := nI 0) dX5_tryIt_9 (by decide) ?_
  refine x_bipush (v := nI 74) dX5_tryIt_10 (by decide) ?_
  refine x_callS (As := [_, _, _, _, _]) hO dX5_tryIt_12 o_X5_copy s_X5_copy l_X5_63 ⟨by decide, by decide⟩ ⟨by decide, by decide⟩ rfl rfl (Nat.le_of_ble_eq_true rfl) (r_copy (sp := 0) (dp := 0) (n := 74) hO k4 k5 (by decide) (by decide) (by decide) (by decide) (Or.inl (by omega)) (fun f h1 h2 h3 => ?_))
  dsimp only [Option.toList, List.cons_append, List.nil_append]
  refine x_ret dX5_tryIt_15 rfl ?_
  refine hq f (fun j hj => ?_) h3
  have e := h1 j hj
  rw [Nat.zero_add] at e
  exact e.trans (vN j hj)

theorem rem14_in {L : List Rw} {ρ σ : Rw} (h : σ ∈ rem14 L ρ) : σ ∈ L ∨ σ = ρ := by
  unfold rem14 at h
  split at h
  · rcases List.mem_append.mp h with h | h
    · exact Or.inl h
    · exact Or.inr (List.mem_singleton.mp h)
  · rcases List.mem_append.mp h with h | h
    · exact Or.inl (List.mem_of_mem_tail h)
    · exact Or.inr (List.mem_singleton.mp h)
theorem rem14_len {L : List Rw} {ρ : Rw} (h : L.length ≤ 14) : (rem14 L ρ).length = (if L.length < 14 then L.length else 13) + 1 := by
  unfold rem14
  split
  · rw [List.length_append, List.length_singleton]
  · rw [List.length_append, List.length_singleton, List.length_tail]
    omega
theorem rem14_at {L : List Rw} {ρ σ : Rw} {i : Nat} (hL : L.length ≤ 14) (h : (rem14 L ρ)[i]? = some σ) : (i = (if L.length < 14 then L.length else 13) ∧ σ = ρ) ∨ (i < (if L.length < 14 then L.length else 13) ∧ L[if L.length < 14 then i else i + 1]? = some σ) := by
  unfold rem14 at h
  by_cases c : L.length < 14
  · rw [if_pos c] at h ⊢
    rw [if_pos c]
    by_cases e : i < L.length
    · rw [List.getElem?_append_left e] at h
      exact Or.inr ⟨e, h⟩
    · rw [List.getElem?_append_right (by omega)] at h
      have : i - L.length < [ρ].length := (List.getElem?_eq_some_iff.mp h).1
      rw [List.length_singleton] at this
      have e2 : i = L.length := by omega
      subst e2
      rw [Nat.sub_self] at h
      exact Or.inl ⟨rfl, (Option.some.inj h).symm⟩
  · rw [if_neg c] at h ⊢
    rw [if_neg c]
    have hl : L.tail.length = 13 := by rw [List.length_tail]; omega
    by_cases e : i < 13
    · rw [List.getElem?_append_left (by omega), List.getElem?_tail] at h
      exact Or.inr ⟨e, h⟩
    · rw [List.getElem?_append_right (by omega)] at h
      have : i - L.tail.length < [ρ].length := (List.getElem?_eq_some_iff.mp h).1
      rw [List.length_singleton] at this
      have e2 : i = 13 := by omega
      rw [hl, e2, Nat.sub_self] at h
      exact Or.inl ⟨e2, (Option.some.inj h).symm⟩
theorem t_rem {G : GT} {C : AH} {Q : QT} {X : XT} {m T n : Nat} {S : Nat → Nat} {ρ : Rw} {L : List Rw} {K : Nat → Option Rw} (hO : GO G) (hT : T ≤ 40000) (hR : RM T C m (S, n, ρ, L, K)) (hq : ∀ f : Nat → Nat → Int32, RM T (wI C f) m (S, n, ρ, rem14 L ρ, K) → f m 0 = gI C m 0 → (∀ a, a ≠ m → a ≠ m + 6 → f a = gI C a) → Q none (wI C f)) : Mt G M_X5_remember [.ref m] C Q X := by
  refine Mt_of (by decide) (Nat.le_of_ble_eq_true rfl) ?_
  obtain ⟨hk, hM, hv⟩ := id hR
  obtain ⟨hm0, ⟨g1, g6, g7, g8, g9, g10, g12, g13, g14, g15, g16, g17, g18⟩, k1, k2, k3, k4, k5, k6, k7, k8, k9, k10, k11, k12, k13, hmz⟩ := id hM
  obtain ⟨vn, vS, vN, vA, vH, vK⟩ : gI C m 2 = nI n ∧ (∀ i, i < n → gI C (m + 1) i = nI (S i)) ∧ Vr (gI C) (m + 4) ρ ∧ gI C m 11 = nI L.length ∧ (∀ i σ, L[i]? = some σ → Vo (gI C) (m + 6) (74 * i) σ) ∧ ∀ i, i < 2 → (K i = none → gI C (m + 8) i = 0) ∧ ∀ σ, K i = some σ → gI C (m + 8) i = 1 ∧ Vo (gI C) (m + 7) (74 * i) σ := hv
  obtain ⟨ok1, ok2, ok3, ok4, ok5, ok6⟩ : Ok T ρ ∧ (∀ σ, σ ∈ L → Ok T σ) ∧ (∀ i σ, K i = some σ → Ok T σ) ∧ n ≤ 120 ∧ (∀ i, i < n → S i < 256) ∧ L.length ≤ 14 := hk
  obtain ⟨hW, hB⟩ := id ok1
  obtain ⟨hb0, hb3, hb4, hb5, hb6, hb7⟩ := id hB
  obtain ⟨w1, w2, w7, w8, w9, w10, w11, w11', w12, wB, wP⟩ := id hW
  have k36 : ∀ (q : Nat) (f : Nat → Nat → Int32), q ≤ 13 → (if L.length < 14 then L.length else 13) = q → f m 11 = nI q → (∀ a j, ¬ (a = m ∧ j = 11) → a ≠ m + 6 → f a j = gI C a j) → (∀ i σ, i < q → L[if L.length < 14 then i else i + 1]? = some σ → Vo f (m + 6) (74 * i) σ) → Ex G M_X5_remember Q X (mC M_X5_remember) (mS M_X5_remember) 36 [(0, .ref m)] [] (wI C f) := by
    intro q f hq13 hqq f11 f0 fd
    refine x_aload_n dX5_remember_36 rfl ?_
    refine x_get 7 hO dX5_remember_37 f_X5_19 (by first | (simp only [gK_wI]; assumption) | assumption) ⟨by decide, by decide⟩ (v := .ref (m + 4)) (congrArg va_rf g8) ?_
    refine x_iconst (v := nI 0) dX5_remember_40 (by decide) ?_
    refine x_aload_n dX5_remember_41 rfl ?_
    refine x_get 7 hO dX5_remember_42 f_X5_25 (by first | (simp only [gK_wI]; assumption) | assumption) ⟨by decide, by decide⟩ (v := .ref (m + 6)) (congrArg va_rf g10) ?_
    refine x_bipush (v := nI 74) dX5_remember_45 (by decide) ?_
    refine x_aload_n dX5_remember_47 rfl ?_
    refine x_get 7 hO dX5_remember_48 f_X5_60 (by first | (simp only [gK_wI]; assumption) | assumption) ⟨by decide, by decide⟩ (v := .int (nI q)) (congrArg Value.int f11) ?_
    refine x_imul dX5_remember_51 ?_
    rw [pk_mul]
    refine x_bipush (v := nI 74) dX5_remember_52 (by decide) ?_
    refine x_callS (As := [_, _, _, _, _]) hO dX5_remember_54 o_X5_copy s_X5_copy l_X5_63 ⟨by decide, by decide⟩ ⟨by decide, by decide⟩ rfl rfl (Nat.le_of_ble_eq_true rfl) (r_copy (sp := 0) (dp := 74 * q) (n := 74) hO k4 k6 (by decide) (by decide) (by decide) (by omega) (Or.inl (by omega)) (fun f54 g1 g2 g3 => ?_))
    dsimp only [Option.toList, List.cons_append, List.nil_append]
    simp only [gI_wI] at g1 g2 g3
    simp only [wI_wI]
    refine x_aload_n dX5_remember_57 rfl ?_
    refine x_dup dX5_remember_58 rfl ?_
    refine x_get 7 hO dX5_remember_59 f_X5_60 (by first | (simp only [gK_wI]; assumption) | assumption) ⟨by decide, by decide⟩ (v := .int (nI q)) (congrArg Value.int ((congrFun (g3 m (by omega)) 11).trans f11)) ?_
    refine x_iconst (v := nI 1) dX5_remember_62 (by decide) ?_
    refine x_iadd dX5_remember_63 ?_
    rw [nI_add]
    refine x_putI 7 hO dX5_remember_64 f_X5_60 (fw_7_11 _) (by first | (simp only [gK_wI]; assumption) | assumption) ⟨by decide, by decide⟩ rfl rfl ?_
    refine x_ret dX5_remember_67 rfl ?_
    try simp only [wI_wI, gI_wI]
    refine hq _ ⟨⟨ok1, fun σ hσ => ?_, ok3, ok4, ok5, ?_⟩, hM, ?_, fun i hi => ?_, fun j hj => ?_, ?_, fun i σ hi => ?_, fun i hi => ?_⟩ ?_ (fun a h1 h2 => ?_)
    · rcases rem14_in hσ with h | h
      · exact ok2 σ h
      · rw [h]; exact ok1
    · have e := rem14_len (ρ := ρ) ok6
      rw [hqq] at e
      show (rem14 L ρ).length ≤ 14
      rw [e]
      omega
    · show up2 f54 m 11 (nI (q + 1)) m 2 = nI n
      rw [up2_n (by omega), g3 m (by omega)]
      exact (f0 m 2 (by omega) (by omega)).trans vn
    · show up2 f54 m 11 (nI (q + 1)) (m + 1) i = _
      rw [up2_n (by omega), g3 _ (by omega), f0 _ _ (by omega) (by omega)]
      exact vS i hi
    · show up2 f54 m 11 (nI (q + 1)) (m + 4) j = _
      rw [up2_n (by omega), g3 _ (by omega), f0 _ _ (by omega) (by omega)]
      exact vN j hj
    · show up2 f54 m 11 (nI (q + 1)) m 11 = nI (rem14 L ρ).length
      rw [up2_s, rem14_len ok6, hqq]
    · intro j hj
      show up2 f54 m 11 (nI (q + 1)) (m + 6) (74 * i + j) = _
      rw [up2_n (by omega)]
      rcases rem14_at ok6 hi with ⟨e1, e2⟩ | ⟨e1, e2⟩
      · rw [hqq] at e1
        subst e1 e2
        rw [g1 j hj, Nat.zero_add, f0 _ _ (by omega) (by omega)]
        exact vN j hj
      · rw [hqq] at e1
        rw [g2 _ (by omega)]
        exact fd i σ e1 e2 j hj
    · show (K i = none → up2 f54 m 11 (nI (q + 1)) (m + 8) i = 0) ∧ ∀ σ, K i = some σ → up2 f54 m 11 (nI (q + 1)) (m + 8) i = 1 ∧ Vo (up2 f54 m 11 (nI (q + 1))) (m + 7) (74 * i) σ
      rw [up2_n (by omega), g3 _ (by omega), f0 _ _ (by omega) (by omega)]
      refine ⟨(vK i hi).1, fun σ h => ⟨((vK i hi).2 σ h).1, fun j hj => ?_⟩⟩
      rw [up2_n (by omega), g3 _ (by omega), f0 _ _ (by omega) (by omega)]
      exact ((vK i hi).2 σ h).2 j hj
    · rw [up2_n (by omega), g3 _ (by omega), f0 _ _ (by omega) (by omega)]
    · rw [up2_f h1, g3 _ h2]
      exact funext fun j => f0 a j (fun h => h1 h.1) h2
  refine x_aload_n dX5_remember_0 rfl ?_
  refine x_get 7 hO dX5_remember_1 f_X5_60 (by first | (simp only [gK_wI]; assumption) | assumption) ⟨by decide, by decide⟩ (v := .int (nI L.length)) (congrArg Value.int vA) ?_
  refine x_bipush (v := nI 14) dX5_remember_4 (by decide) ?_
  refine x_icmp_ne (tgt := 36) dX5_remember_6 (by decide) (fun c6 => ?_) (fun c6 => ?_)
  · simp (disch := omega) only [nI_eq] at c6
    exact k36 L.length (gI C) (by omega) (if_pos (by omega)) vA (fun _ _ _ _ => rfl) (fun i σ hi he => vH i σ (by rw [if_pos (show L.length < 14 by omega)] at he; exact he))
  · simp (disch := omega) only [nI_eq] at c6
    refine x_aload_n dX5_remember_9 rfl ?_
    refine x_get 7 hO dX5_remember_10 f_X5_25 (by first | (simp only [gK_wI]; assumption) | assumption) ⟨by decide, by decide⟩ (v := .ref (m + 6)) (congrArg va_rf g10) ?_
    refine x_bipush (v := nI 74) dX5_remember_13 (by decide) ?_
    refine x_aload_n dX5_remember_15 rfl ?_
    refine x_get 7 hO dX5_remember_16 f_X5_25 (by first | (simp only [gK_wI]; assumption) | assumption) ⟨by decide, by decide⟩ (v := .ref (m + 6)) (congrArg va_rf g10) ?_
    refine x_iconst (v := nI 0) dX5_remember_19 (by decide) ?_
    refine x_sipush (v := nI 962) dX5_remember_20 (by decide) ?_
    refine x_callS (As := [_, _, _, _, _]) hO dX5_remember_23 o_X5_copy s_X5_copy l_X5_63 ⟨by decide, by decide⟩ ⟨by decide, by decide⟩ rfl rfl (Nat.le_of_ble_eq_true rfl) (r_copy (sp := 74) (dp := 0) (n := 962) hO k6 k6 (by decide) (by decide) (by decide) (by decide) (Or.inr (by decide)) (fun f23 h1 h2 h3 => ?_))
    dsimp only [Option.toList, List.cons_append, List.nil_append]
    refine x_aload_n dX5_remember_26 rfl ?_
    refine x_dup dX5_remember_27 rfl ?_
    refine x_get 7 hO dX5_remember_28 f_X5_60 (by first | (simp only [gK_wI]; assumption) | assumption) ⟨by decide, by decide⟩ (v := .int (nI L.length)) (congrArg Value.int ((congrFun (h3 m (by omega)) 11).trans vA)) ?_
    refine x_iconst (v := nI 1) dX5_remember_31 (by decide) ?_
    refine x_isub dX5_remember_32 ?_
    rw [pk_sub (by omega)]
    refine x_putI 7 hO dX5_remember_33 f_X5_60 (fw_7_11 _) (by first | (simp only [gK_wI]; assumption) | assumption) ⟨by decide, by decide⟩ rfl rfl ?_
    try simp only [wI_wI, gI_wI]
    refine k36 13 _ (by decide) (if_neg (by omega)) (by rw [up2_s, c6]) (fun a j h1 h2 => ?_) (fun i σ hi he j hj => ?_)
    · rw [up2_n h1, h3 a h2]
    · rw [if_neg (by omega)] at he
      rw [up2_n (by omega)]
      have e1 := h1 (74 * i + j) (by omega)
      rw [Nat.zero_add] at e1
      rw [e1, show 74 + (74 * i + j) = 74 * (i + 1) + j by omega]
      exact vH (i + 1) σ he j hj

