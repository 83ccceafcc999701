/-! the reference: who is charged *)-/
/-- its object and its rows *)-/
def MdS (C : AH) (m : Nat) : Prop :=
  gK C m = 7 ∧ (gR C m 1 = some (m + 1) ∧ gR C m 6 = some (m + 2) ∧ gR C m 7 = some (m + 3) ∧ gR C m 8 = some (m + 4) ∧ gR C m 9 = some (m + 5) ∧ gR C m 10 = some (m + 6) ∧ gR C m 12 = some (m + 7) ∧ gR C m 13 = some (m + 8) ∧ gR C m 14 = some (m + 9) ∧ gR C m 15 = some (m + 10) ∧ gR C m 16 = some (m + 11) ∧ gR C m 17 = some (m + 12) ∧ gR C m 18 = some (m + 13)) ∧
  AS C (m + 1) 20 120 ∧ RowS C (m + 2) ∧ AS C (m + 3) 20 5 ∧ RowS C (m + 4) ∧ RowS C (m + 5) ∧ AS C (m + 6) 20 1036 ∧ AS C (m + 7) 20 148 ∧ AS C (m + 8) 21 2 ∧
  AS C (m + 9) 20 5 ∧ AS C (m + 10) 20 5 ∧ AS C (m + 11) 20 8 ∧ AS C (m + 12) 20 8 ∧ AS C (m + 13) 21 8 ∧ m + 14 ≤ gz C
theorem MdS_wI {C : AH} {f : Nat → Nat → Int32} {m : Nat} (h : MdS C m) : MdS (wI C f) m := h
/-- the first places of a row of numbers *)-/
def Lst (f : Nat → Int32) (L : List Nat) : Prop := ∀ k, k < L.length → f k = nI (L.getD k 0)
theorem Lst_app {g : Nat → Nat → Int32} {a c : Nat} {L : List Nat} (h : Lst (g a) L) : Lst (up2 g a L.length (nI c) a) (L ++ [c]) := fun k hk => by
  rw [List.length_append, List.length_singleton] at hk
  by_cases e : k = L.length
  · subst e
    rw [up2_s, getD_ar (Nat.le_refl _), Nat.sub_self]
    rfl
  · rw [up2_n fun q => e q.2, getD_al (by omega)]
    exact h k (by omega)
theorem ordP_le {ρ : Rw} {m j i : Nat} (h : j ≤ i) : (ordP ρ m j).length ≤ (ordP ρ m i).length := by
  induction i with
  | zero =>
    have : j = 0 := by omega
    subst this
    exact Nat.le_refl _
  | succ i ih =>
    by_cases e : j = i + 1
    · subst e; exact Nat.le_refl _
    · have := ih (by omega)
      rw [ordP_s, List.length_append]
      omega
/-- the charger c is the next one of its power *)-/
theorem ord_room {ρ : Rw} {m j c : Nat} (hj : j < 50) (hc : c < m) (hp : ρ (69 + c) = 50 - j) (hw : ∀ c, c < m → 1 ≤ ρ (69 + c) ∧ ρ (69 + c) ≤ 50) :
    (ordP ρ m j ++ (List.range c).filter fun c => ρ (69 + c) = 50 - j).length < m := by
  have h1 := ordM_len hw
  have h2 : (ordP ρ m (j + 1)).length ≤ (ordP ρ m 50).length := ordP_le (by omega)
  have h3 : (List.range (c + 1)).filter (fun c => ρ (69 + c) = 50 - j) = ((List.range c).filter fun c => ρ (69 + c) = 50 - j) ++ [c] := by
    rw [List.range_succ, List.filter_append]
    simp [hp]
  have h4 : ((List.range (c + 1)).filter (fun c => ρ (69 + c) = 50 - j)).length ≤ ((List.range m).filter (fun c => ρ (69 + c) = 50 - j)).length :=
    ((List.range_sublist.mpr (by omega)).filter _).length_le
  rw [h3, List.length_append, List.length_singleton] at h4
  rw [ordP_s, List.length_append] at h2
  rw [List.length_append]
  have h5 : (ordP ρ m 50).length = m := h1
  omega
theorem filt_s {p : Nat → Bool} {c : Nat} : (List.range (c + 1)).filter p = (List.range c).filter p ++ (if p c = true then [c] else []) := by
  rw [List.range_succ, List.filter_append]
  by_cases h : p c = true
  · simp [h]
  · simp [h]
theorem nI_leI0 {q : Nat} (h : q < 2147483648) : nI q ≤ 0 ↔ q = 0 := by
  have e : (0 : Int32) = nI 0 := rfl
  rw [e, nI_leI h (by decide)]
  omega
theorem r_layOrder {G : GT} {C : AH} {Q : QT} {X : XT} {a : Nat} {ρ : Rw} {m : Nat} (hO : GO G) (hA : RowS C a) (hV : Vr (gI C) a ρ) (hW : Wf ρ) (hM : MdS C m) (hne : a ≠ m + 9) (hq : ∀ f : Nat → Nat → Int32, Lst (f (m + 9)) (ordL ρ) → (∀ b : Nat, b ≠ m + 9 → f b = gI C b) → Q none (wI C f)) : Mt G M_X5_layOrder [.ref m, .ref a] C Q X := by
  refine Mt_of (by decide) (Nat.le_of_ble_eq_true rfl) ?_
  obtain ⟨hm0, ⟨g1, g6, g7, g8, g9, g10, g12, g13, g14, g15, g16, g17, g18⟩, k1, k2, k3, k4, k5, k6, k7, k8, k9, k10, k11, k12, k13, hmz⟩ := id hM
  obtain ⟨w1, w2, w7, w8, w9, w10, w11, w11', w12, wB, wP⟩ := id hW
  have inner : ∀ (j : Nat), j < 50 → (∀ f : Nat → Nat → Int32, Lst (f (m + 9)) (ordP ρ (ρ 2) j ++ (List.range (ρ 2)).filter fun c => decide (ρ (69 + c) = 50 - j)) → (∀ b : Nat, b ≠ m + 9 → f b = gI C b) → Ex G M_X5_layOrder Q X (mC M_X5_layOrder) (mS M_X5_layOrder) 48 [(0, .ref m), (1, .ref a), (2, .int (nI (ordP ρ (ρ 2) j ++ (List.range (ρ 2)).filter fun c => decide (ρ (69 + c) = 50 - j)).length)), (3, .int (nI (50 - j))), (4, .int (nI (ρ 2)))] [] (wI C f)) →
      ∀ (m8 c : Nat) (f : Nat → Nat → Int32), ρ 2 - c = m8 → c ≤ ρ 2 → Lst (f (m + 9)) (ordP ρ (ρ 2) j ++ (List.range c).filter fun c => decide (ρ (69 + c) = 50 - j)) → (∀ b : Nat, b ≠ m + 9 → f b = gI C b) → Ex G M_X5_layOrder Q X (mC M_X5_layOrder) (mS M_X5_layOrder) 12 [(0, .ref m), (1, .ref a), (2, .int (nI (ordP ρ (ρ 2) j ++ (List.range c).filter fun c => decide (ρ (69 + c) = 50 - j)).length)), (3, .int (nI (50 - j))), (4, .int (nI c))] [] (wI C f) := by
    intro j hj kk m8
    induction m8 using Nat.strongRecOn with
    | _ m8 ihc =>
      intro c f hm8 hc hL hf
      refine x_iload dX5_layOrder_12 rfl ?_
      refine x_aload_n dX5_layOrder_14 rfl ?_
      refine x_iconst (v := nI 2) dX5_layOrder_15 (by decide) ?_
      refine x_row _ hO dX5_layOrder_16 hA (fun q hq => (congrFun (hf a hne) q).trans (hV q hq)) rfl (by omega) ?_
      refine x_icmp_ge (tgt := 48) dX5_layOrder_17 (by decide) (fun c17 => ?_) (fun c17 => ?_)
      · simp (disch := omega) only [nI_leI] at c17
        have : c = ρ 2 := by omega
        subst this
        exact kk f hL hf
      · simp (disch := omega) only [nI_leI] at c17
        have hc8 : c < ρ 2 := by omega
        obtain ⟨p1, p2⟩ := wP c hc8
        refine x_aload_n dX5_layOrder_20 rfl ?_
        refine x_bipush (v := nI 69) dX5_layOrder_21 (by decide) ?_
        refine x_iload dX5_layOrder_23 rfl ?_
        refine x_iadd dX5_layOrder_25 ?_
        refine x_row (69 + c) hO dX5_layOrder_26 hA (fun q hq => (congrFun (hf a hne) q).trans (hV q hq)) (nI_add _ _) (by omega) ?_
        refine x_iload_n dX5_layOrder_27 rfl ?_
        refine x_icmp_ne (tgt := 42) dX5_layOrder_28 (by decide) (fun c28 => ?_) (fun c28 => ?_)
        · simp (disch := omega) only [nI_eq] at c28
          refine x_iinc (v := nI 1) dX5_layOrder_42 rfl (by decide) (by decide) ?_
          refine x_goto (tgt := 12) dX5_layOrder_45 (by decide) ?_
          first
            | (refine x_ls [(0, .ref m), (1, .ref a), (2, .int (nI ((ordP ρ (ρ 2) j ++ (List.range c).filter fun c => decide (ρ (69 + c) = 50 - j)) ++ [c]).length)), (3, .int (nI (50 - j))), (4, .int (nI (c + 1)))] ⟨rfl, rfl, (by rw [List.length_append, ← nI_add]; rfl), rfl, (by rw [← nI_add]; rfl), trivial⟩ ?_
               have e9 : ordP ρ (ρ 2) j ++ (List.range (c + 1)).filter (fun c => decide (ρ (69 + c) = 50 - j)) = (ordP ρ (ρ 2) j ++ (List.range c).filter fun c => decide (ρ (69 + c) = 50 - j)) ++ [c] := by
                 rw [filt_s, if_pos (by simpa using c28), ← List.append_assoc]
               rw [← e9]
               refine ihc (m8 - 1) (by omega) (c + 1) _ (by omega) (by omega) ?_ (fun b hb => (funext fun q => up2_n fun h => hb h.1).trans (hf b hb))
               rw [e9]
               exact Lst_app (g := f) hL
               done)
            | (refine x_ls [(0, .ref m), (1, .ref a), (2, .int (nI (ordP ρ (ρ 2) j ++ (List.range c).filter fun c => decide (ρ (69 + c) = 50 - j)).length)), (3, .int (nI (50 - j))), (4, .int (nI (c + 1)))] ⟨rfl, rfl, rfl, rfl, (by rw [← nI_add]; rfl), trivial⟩ ?_
               have e9 : (List.range (c + 1)).filter (fun c => decide (ρ (69 + c) = 50 - j)) = (List.range c).filter fun c => decide (ρ (69 + c) = 50 - j) := by
                 rw [filt_s, if_neg (by simpa using c28), List.append_nil]
               rw [← e9]
               refine ihc (m8 - 1) (by omega) (c + 1) f (by omega) (by omega) ?_ hf
               rw [e9]
               exact hL
               done)
        · simp (disch := omega) only [nI_eq] at c28
          have hroom := ord_room (ρ := ρ) (m := ρ 2) (j := j) (c := c) (by omega) hc8 c28 wP
          refine x_aload_n dX5_layOrder_31 rfl ?_
          refine x_get 7 hO dX5_layOrder_32 f_X5_35 (by first | (simp only [gK_wI]; assumption) | assumption) ⟨by decide, by decide⟩ (v := .ref (m + 9)) (congrArg va_rf g14) ?_
          refine x_iload_n dX5_layOrder_35 rfl ?_
          refine x_iload dX5_layOrder_36 rfl ?_
          refine x_iast (ordP ρ (ρ 2) j ++ (List.range c).filter fun c => decide (ρ (69 + c) = 50 - j)).length 5 hO dX5_layOrder_38 k9.1 rfl k9.2 (Nat.lt_of_lt_of_le hroom w2) (by decide) ?_
          try simp only [wI_wI]
          refine x_iinc (v := nI 1) dX5_layOrder_39 rfl (by decide) (by decide) ?_
          refine x_iinc (v := nI 1) dX5_layOrder_42 rfl (by decide) (by decide) ?_
          refine x_goto (tgt := 12) dX5_layOrder_45 (by decide) ?_
          first
            | (refine x_ls [(0, .ref m), (1, .ref a), (2, .int (nI ((ordP ρ (ρ 2) j ++ (List.range c).filter fun c => decide (ρ (69 + c) = 50 - j)) ++ [c]).length)), (3, .int (nI (50 - j))), (4, .int (nI (c + 1)))] ⟨rfl, rfl, (by rw [List.length_append, ← nI_add]; rfl), rfl, (by rw [← nI_add]; rfl), trivial⟩ ?_
               have e9 : ordP ρ (ρ 2) j ++ (List.range (c + 1)).filter (fun c => decide (ρ (69 + c) = 50 - j)) = (ordP ρ (ρ 2) j ++ (List.range c).filter fun c => decide (ρ (69 + c) = 50 - j)) ++ [c] := by
                 rw [filt_s, if_pos (by simpa using c28), ← List.append_assoc]
               rw [← e9]
               refine ihc (m8 - 1) (by omega) (c + 1) _ (by omega) (by omega) ?_ (fun b hb => (funext fun q => up2_n fun h => hb h.1).trans (hf b hb))
               rw [e9]
               exact Lst_app (g := f) hL
               done)
            | (refine x_ls [(0, .ref m), (1, .ref a), (2, .int (nI (ordP ρ (ρ 2) j ++ (List.range c).filter fun c => decide (ρ (69 + c) = 50 - j)).length)), (3, .int (nI (50 - j))), (4, .int (nI (c + 1)))] ⟨rfl, rfl, rfl, rfl, (by rw [← nI_add]; rfl), trivial⟩ ?_
               have e9 : (List.range (c + 1)).filter (fun c => decide (ρ (69 + c) = 50 - j)) = (List.range c).filter fun c => decide (ρ (69 + c) = 50 - j) := by
                 rw [filt_s, if_neg (by simpa using c28), List.append_nil]
               rw [← e9]
               refine ihc (m8 - 1) (by omega) (c + 1) f (by omega) (by omega) ?_ hf
               rw [e9]
               exact hL
               done)
  have loop : ∀ (m9 j : Nat) (f : Nat → Nat → Int32), 50 - j = m9 → j ≤ 50 → Lst (f (m + 9)) (ordP ρ (ρ 2) j) → (∀ b : Nat, b ≠ m + 9 → f b = gI C b) → Ex G M_X5_layOrder Q X (mC M_X5_layOrder) (mS M_X5_layOrder) 5 [(0, .ref m), (1, .ref a), (2, .int (nI (ordP ρ (ρ 2) j).length)), (3, .int (nI (50 - j)))] [] (wI C f) := by
    intro m9
    induction m9 using Nat.strongRecOn with
    | _ m9 ih =>
      intro j f hm9 hj hL hf
      refine x_iload_n dX5_layOrder_5 rfl ?_
      refine x_if_le (tgt := 54) dX5_layOrder_6 (by decide) (fun c6 => ?_) (fun c6 => ?_)
      · simp (disch := omega) only [nI_leI0] at c6
        refine x_ret dX5_layOrder_54 rfl ?_
        have : j = 50 := by omega
        subst this
        exact hq f hL hf
      · simp (disch := omega) only [nI_leI0] at c6
        refine x_iconst (v := nI 0) dX5_layOrder_9 (by decide) ?_
        refine x_istore dX5_layOrder_10 (by decide) ?_
        refine x_ls [(0, .ref m), (1, .ref a), (2, .int (nI (ordP ρ (ρ 2) j ++ (List.range 0).filter fun c => decide (ρ (69 + c) = 50 - j)).length)), (3, .int (nI (50 - j))), (4, .int (nI 0))] ⟨rfl, rfl, (by rw [List.range_zero, List.filter_nil, List.append_nil]; rfl), rfl, rfl, trivial⟩ ?_
        refine inner j (by omega) (fun f hL hf => ?_) _ 0 f rfl (Nat.zero_le _) (by rw [List.range_zero, List.filter_nil, List.append_nil]; exact hL) hf
        refine x_iinc (v := (-1)) dX5_layOrder_48 rfl (by decide) (by decide) ?_
        refine x_goto (tgt := 5) dX5_layOrder_51 (by decide) ?_
        refine x_ls [(0, .ref m), (1, .ref a), (2, .int (nI (ordP ρ (ρ 2) (j + 1)).length)), (3, .int (nI (50 - (j + 1))))] ⟨rfl, rfl, (by rw [ordP_s]; rfl), (by show some (Value.int (nI (50 - j) + -1)) = some (Value.int (nI (50 - (j + 1)))); rw [show 50 - j = (50 - (j + 1)) + 1 by omega, nI_dec]), trivial⟩ ?_
        refine ih (m9 - 1) (by omega) (j + 1) f (by omega) (by omega) ?_ hf
        rw [ordP_s]
        exact hL
  refine x_iconst (v := nI 0) dX5_layOrder_0 (by decide) ?_
  refine x_istore_n dX5_layOrder_1 (by decide) ?_
  refine x_bipush (v := nI 50) dX5_layOrder_2 (by decide) ?_
  refine x_istore_n dX5_layOrder_4 (by decide) ?_
  refine x_ls [(0, .ref m), (1, .ref a), (2, .int (nI (ordP ρ (ρ 2) 0).length)), (3, .int (nI (50 - 0)))] ⟨rfl, rfl, rfl, rfl, trivial⟩ ?_
  exact loop _ 0 (gI C) rfl (Nat.zero_le _) (fun k hk => absurd hk (Nat.not_lt_zero k)) fun _ _ => rfl


abbrev Lkd (f : Nat → Nat → Int32) (m : Nat) (lk : Nat → Nat) : Prop := ∀ b, b < 8 → f (m + 13) b = nI (lk b)
theorem nx1_n {ρ : Rw} {lk : Nat → Nat} {n : Nat} (h : nx1 ρ lk n = none) : nx1 ρ lk (n + 1) = if lk n = 0 ∧ wnt ρ n then some n else none := by
  show (match nx1 ρ lk n with
    | none => if lk n = 0 ∧ wnt ρ n then some n else none
    | some o => if lk n = 0 ∧ wnt ρ n ∧ ahd ρ n o then some n else some o) = _
  rw [h]
theorem nx1_o {ρ : Rw} {lk : Nat → Nat} {n o : Nat} (h : nx1 ρ lk n = some o) : nx1 ρ lk (n + 1) = if lk n = 0 ∧ wnt ρ n ∧ ahd ρ n o then some n else some o := by
  show (match nx1 ρ lk n with
    | none => if lk n = 0 ∧ wnt ρ n then some n else none
    | some o => if lk n = 0 ∧ wnt ρ n ∧ ahd ρ n o then some n else some o) = _
  rw [h]
/-- the first candidate from b on *)-/
def NxD (ρ : Rw) (lk : Nat → Nat) (b : Nat) (r : Option Nat) : Prop := match r with
  | none => ∀ i, b ≤ i → i < ρ 1 → ¬ ncd ρ lk i
  | some o => b ≤ o ∧ o < ρ 1 ∧ ncd ρ lk o ∧ ∀ i, b ≤ i → i < o → ¬ ncd ρ lk i
theorem nx2_is {ρ : Rw} {lk : Nat → Nat} {n : Nat} : (nx2 ρ lk n = none → ∀ i, i < n → ¬ ncd ρ lk i) ∧ ∀ o, nx2 ρ lk n = some o → o < n ∧ ncd ρ lk o ∧ ∀ i, i < o → ¬ ncd ρ lk i := by
  induction n with
  | zero => exact ⟨fun _ i hi => absurd hi (Nat.not_lt_zero i), (fun o h => nomatch h)⟩
  | succ n ih =>
    have e : nx2 ρ lk (n + 1) = match nx2 ρ lk n with
      | none => if ncd ρ lk n then some n else none
      | some o => some o := rfl
    rw [e]
    cases h : nx2 ρ lk n with
    | none =>
      have h1 := ih.1 h
      by_cases c : ncd ρ lk n
      · simp only [if_pos c]
        exact ⟨(fun q => nomatch q), fun o q => by cases q; exact ⟨Nat.lt_succ_self n, c, h1⟩⟩
      · simp only [if_neg c]
        refine ⟨fun _ i hi => ?_, (fun o q => nomatch q)⟩
        by_cases ei : i = n
        · subst ei; exact c
        · exact h1 i (by omega)
    | some o =>
      obtain ⟨a1, a2, a3⟩ := ih.2 o h
      exact ⟨(fun q => nomatch q), fun p q => by cases q; exact ⟨by omega, a2, a3⟩⟩
theorem NxD_nx2 {ρ : Rw} {lk : Nat → Nat} {r : Option Nat} (h : NxD ρ lk 0 r) : nx2 ρ lk (ρ 1) = r := by
  obtain ⟨h1, h2⟩ := nx2_is (ρ := ρ) (lk := lk) (n := ρ 1)
  cases r with
  | none =>
    cases e : nx2 ρ lk (ρ 1) with
    | none => rfl
    | some o =>
      obtain ⟨a1, a2, -⟩ := h2 o e
      exact absurd a2 (h o (Nat.zero_le _) a1)
  | some p =>
    obtain ⟨-, b1, b2, b3⟩ := h
    cases e : nx2 ρ lk (ρ 1) with
    | none => exact absurd b2 (h1 e p b1)
    | some o =>
      obtain ⟨a1, a2, a3⟩ := h2 o e
      have : ¬ o < p := fun q => b3 o (Nat.zero_le _) q a2
      have : ¬ p < o := fun q => a3 p q b2
      have : o = p := by omega
      rw [this]
theorem NxD_dn {ρ : Rw} {lk : Nat → Nat} {b : Nat} {r : Option Nat} (h : NxD ρ lk (b + 1) r) (hc : ¬ ncd ρ lk b) : NxD ρ lk b r := by
  cases r with
  | none =>
    intro i h1 h2
    by_cases e : i = b
    · subst e; exact hc
    · exact h i (by omega) h2
  | some o =>
    obtain ⟨a1, a2, a3, a4⟩ := h
    refine ⟨by omega, a2, a3, fun i h1 h2 => ?_⟩
    by_cases e : i = b
    · subst e; exact hc
    · exact a4 i (by omega) h2
theorem enc_some {o : Nat} (h : o < 2147483648) : ¬ enc (some o) = -1 := fun q => nI_m1 h q
theorem r_next {G : GT} {C : AH} {Q : QT} {X : XT} {a : Nat} {ρ : Rw} {m : Nat} {lk : Nat → Nat} (hO : GO G) (hA : RowS C a) (hV : Vr (gI C) a ρ) (hW : Wf ρ) (h0 : ρ 0 < 1000000) (hM : MdS C m) (hlk : Lkd (gI C) m lk) (hl : ∀ b, lk b ≤ 1) (hq : Q (some (.int (enc (nxt ρ lk)))) C) : Mt G M_X5_next [.ref m, .ref a] C Q X := by
  refine Mt_of (by decide) (Nat.le_of_ble_eq_true rfl) ?_
  obtain ⟨hm0, ⟨g1, g6, g7, g8, g9, g10, g12, g13, g14, g15, g16, g17, g18⟩, k1, k2, k3, k4, k5, k6, k7, k8, k9, k10, k11, k12, k13, hmz⟩ := id hM
  obtain ⟨w1, w2, w7, w8, w9, w10, w11, w11', w12, wB, wP⟩ := id hW
  have loop : (∀ o, nx1 ρ lk (ρ 1) = o → Ex G M_X5_next Q X (mC M_X5_next) (mS M_X5_next) 66 [(0, .ref m), (1, .ref a), (2, .int (enc o)), (3, .int (nI (ρ 1)))] [] C) → ∀ (m9 i : Nat), ρ 1 - i = m9 → i ≤ ρ 1 → Ex G M_X5_next Q X (mC M_X5_next) (mS M_X5_next) 4 [(0, .ref m), (1, .ref a), (2, .int (enc (nx1 ρ lk i))), (3, .int (nI i))] [] C := by
    intro kk m9
    induction m9 using Nat.strongRecOn with
    | _ m9 ih =>
      intro i hm9 hi
      have hnx : ∀ o, nx1 ρ lk i = some o → o < 2147483648 := fun o h => by have := (nx1_in h).1; omega
      cases eo : nx1 ρ lk i with
      | none =>
        refine x_iload_n dX5_next_4 rfl ?_
        refine x_aload_n dX5_next_5 rfl ?_
        refine x_iconst (v := nI 1) dX5_next_6 (by decide) ?_
        refine x_row _ hO dX5_next_7 hA hV rfl (by omega) ?_
        refine x_icmp_ge (tgt := 66) dX5_next_8 (by decide) (fun c8 => ?_) (fun c8 => ?_)
        · simp (disch := omega) only [nI_leI] at c8
          have : i = ρ 1 := by omega
          subst this
          exact kk none eo
        · simp (disch := omega) only [nI_leI] at c8
          have hi8 : i < ρ 1 := by omega
          have hl1 := hl i
          obtain ⟨b0, b0', b1, b2, b2', b3, b4, b34, b6⟩ := wB i hi8
          refine x_aload_n dX5_next_11 rfl ?_
          refine x_get 7 hO dX5_next_12 f_X5_47 (by first | (simp only [gK_wI]; assumption) | assumption) ⟨by decide, by decide⟩ (v := .ref (m + 13)) (congrArg va_rf g18) ?_
          refine x_iload_n dX5_next_15 rfl ?_
          refine x_zald i 8 hO dX5_next_16 k13.1 rfl k13.2 (by omega) (by decide) (fun z16 => ?_)
          rw [hlk i (by omega)] at z16 ⊢
          refine x_if_ne (tgt := 32) dX5_next_17 (by decide) (fun c17 => ?_) (fun c17 => ?_)
          · simp (disch := omega) only [nI_z] at c17
            refine x_iconst (v := nI 0) dX5_next_32 (by decide) ?_
            refine x_istore dX5_next_33 (by decide) ?_
            refine x_iload dX5_next_35 rfl ?_
            refine x_if_eq (tgt := 58) dX5_next_37 (by decide) (fun c37 => ?_) (fun c37 => ?_)
            · refine x_iload_n dX5_next_58 rfl ?_
              refine x_istore_n dX5_next_59 (by decide) ?_
              refine x_iinc (v := nI 1) dX5_next_60 rfl (by decide) (by decide) ?_
              refine x_goto (tgt := 4) dX5_next_63 (by decide) ?_
              first
                | exact absurd c37 (by decide)
                | exact absurd rfl c37
                | (have e9 : nx1 ρ lk (i + 1) = some i := (nx1_n eo).trans (if_pos ⟨c17, p22⟩)
                   refine x_ls [(0, .ref m), (1, .ref a), (2, .int (enc (nx1 ρ lk (i + 1)))), (3, .int (nI (i + 1)))] ⟨rfl, rfl, (by rw [e9]; rfl), (by rw [← nI_add]; rfl), trivial⟩ ?_
                   exact ih (m9 - 1) (by omega) (i + 1) (by omega) (by omega))
                | (have e9 : nx1 ρ lk (i + 1) = none := (nx1_n eo).trans (if_neg (fun q => p22 q.2))
                   refine x_ls [(0, .ref m), (1, .ref a), (2, .int (enc (nx1 ρ lk (i + 1)))), (3, .int (nI (i + 1)))] ⟨rfl, rfl, (by rw [e9]; rfl), (by rw [← nI_add]; rfl), trivial⟩ ?_
                   exact ih (m9 - 1) (by omega) (i + 1) (by omega) (by omega))
                | (have e9 : nx1 ρ lk (i + 1) = none := (nx1_n eo).trans (if_neg (fun q => c17 q.1))
                   refine x_ls [(0, .ref m), (1, .ref a), (2, .int (enc (nx1 ρ lk (i + 1)))), (3, .int (nI (i + 1)))] ⟨rfl, rfl, (by rw [e9]; rfl), (by rw [← nI_add]; rfl), trivial⟩ ?_
                   exact ih (m9 - 1) (by omega) (i + 1) (by omega) (by omega))
            · refine x_iload_n dX5_next_40 rfl ?_
              refine x_iconst (v := (-1)) dX5_next_41 (by decide) ?_
              refine x_icmp_eq (tgt := 54) dX5_next_42 (by decide) (fun c42 => ?_) (fun c42 => ?_)
              · refine x_iload_n dX5_next_54 rfl ?_
                refine x_goto (tgt := 59) dX5_next_55 (by decide) ?_
                refine x_istore_n dX5_next_59 (by decide) ?_
                refine x_iinc (v := nI 1) dX5_next_60 rfl (by decide) (by decide) ?_
                refine x_goto (tgt := 4) dX5_next_63 (by decide) ?_
                first
                  | exact absurd c37 (by decide)
                  | exact absurd rfl c37
                  | (have e9 : nx1 ρ lk (i + 1) = some i := (nx1_n eo).trans (if_pos ⟨c17, p22⟩)
                     refine x_ls [(0, .ref m), (1, .ref a), (2, .int (enc (nx1 ρ lk (i + 1)))), (3, .int (nI (i + 1)))] ⟨rfl, rfl, (by rw [e9]; rfl), (by rw [← nI_add]; rfl), trivial⟩ ?_
                     exact ih (m9 - 1) (by omega) (i + 1) (by omega) (by omega))
                  | (have e9 : nx1 ρ lk (i + 1) = none := (nx1_n eo).trans (if_neg (fun q => p22 q.2))
                     refine x_ls [(0, .ref m), (1, .ref a), (2, .int (enc (nx1 ρ lk (i + 1)))), (3, .int (nI (i + 1)))] ⟨rfl, rfl, (by rw [e9]; rfl), (by rw [← nI_add]; rfl), trivial⟩ ?_
                     exact ih (m9 - 1) (by omega) (i + 1) (by omega) (by omega))
                  | (have e9 : nx1 ρ lk (i + 1) = none := (nx1_n eo).trans (if_neg (fun q => c17 q.1))
                     refine x_ls [(0, .ref m), (1, .ref a), (2, .int (enc (nx1 ρ lk (i + 1)))), (3, .int (nI (i + 1)))] ⟨rfl, rfl, (by rw [e9]; rfl), (by rw [← nI_add]; rfl), trivial⟩ ?_
                     exact ih (m9 - 1) (by omega) (i + 1) (by omega) (by omega))
              · exact absurd rfl c42
          · simp (disch := omega) only [nI_z] at c17
            refine x_aload_n dX5_next_20 rfl ?_
            refine x_iload_n dX5_next_21 rfl ?_
            refine x_callS (As := [_, _]) hO dX5_next_22 o_X5_wants s_X5_wants l_X5_86 ⟨by decide, by decide⟩ ⟨by decide, by decide⟩ rfl rfl (Nat.le_of_ble_eq_true rfl) (r_wants hO hA hV (by omega) ⟨by omega, by omega, by omega, by omega⟩ (fun r22 hr22 => ?_))
            dsimp only [Option.toList, List.cons_append, List.nil_append]
            refine x_if_eq (tgt := 32) dX5_next_25 (by decide) (fun c25 => ?_) (fun c25 => ?_)
            · have p22 := (ite01 hr22).1 c25
              refine x_iconst (v := nI 0) dX5_next_32 (by decide) ?_
              refine x_istore dX5_next_33 (by decide) ?_
              refine x_iload dX5_next_35 rfl ?_
              refine x_if_eq (tgt := 58) dX5_next_37 (by decide) (fun c37 => ?_) (fun c37 => ?_)
              · refine x_iload_n dX5_next_58 rfl ?_
                refine x_istore_n dX5_next_59 (by decide) ?_
                refine x_iinc (v := nI 1) dX5_next_60 rfl (by decide) (by decide) ?_
                refine x_goto (tgt := 4) dX5_next_63 (by decide) ?_
                first
                  | exact absurd c37 (by decide)
                  | exact absurd rfl c37
                  | (have e9 : nx1 ρ lk (i + 1) = some i := (nx1_n eo).trans (if_pos ⟨c17, p22⟩)
                     refine x_ls [(0, .ref m), (1, .ref a), (2, .int (enc (nx1 ρ lk (i + 1)))), (3, .int (nI (i + 1)))] ⟨rfl, rfl, (by rw [e9]; rfl), (by rw [← nI_add]; rfl), trivial⟩ ?_
                     exact ih (m9 - 1) (by omega) (i + 1) (by omega) (by omega))
                  | (have e9 : nx1 ρ lk (i + 1) = none := (nx1_n eo).trans (if_neg (fun q => p22 q.2))
                     refine x_ls [(0, .ref m), (1, .ref a), (2, .int (enc (nx1 ρ lk (i + 1)))), (3, .int (nI (i + 1)))] ⟨rfl, rfl, (by rw [e9]; rfl), (by rw [← nI_add]; rfl), trivial⟩ ?_
                     exact ih (m9 - 1) (by omega) (i + 1) (by omega) (by omega))
                  | (have e9 : nx1 ρ lk (i + 1) = none := (nx1_n eo).trans (if_neg (fun q => c17 q.1))
                     refine x_ls [(0, .ref m), (1, .ref a), (2, .int (enc (nx1 ρ lk (i + 1)))), (3, .int (nI (i + 1)))] ⟨rfl, rfl, (by rw [e9]; rfl), (by rw [← nI_add]; rfl), trivial⟩ ?_
                     exact ih (m9 - 1) (by omega) (i + 1) (by omega) (by omega))
              · refine x_iload_n dX5_next_40 rfl ?_
                refine x_iconst (v := (-1)) dX5_next_41 (by decide) ?_
                refine x_icmp_eq (tgt := 54) dX5_next_42 (by decide) (fun c42 => ?_) (fun c42 => ?_)
                · refine x_iload_n dX5_next_54 rfl ?_
                  refine x_goto (tgt := 59) dX5_next_55 (by decide) ?_
                  refine x_istore_n dX5_next_59 (by decide) ?_
                  refine x_iinc (v := nI 1) dX5_next_60 rfl (by decide) (by decide) ?_
                  refine x_goto (tgt := 4) dX5_next_63 (by decide) ?_
                  first
                    | exact absurd c37 (by decide)
                    | exact absurd rfl c37
                    | (have e9 : nx1 ρ lk (i + 1) = some i := (nx1_n eo).trans (if_pos ⟨c17, p22⟩)
                       refine x_ls [(0, .ref m), (1, .ref a), (2, .int (enc (nx1 ρ lk (i + 1)))), (3, .int (nI (i + 1)))] ⟨rfl, rfl, (by rw [e9]; rfl), (by rw [← nI_add]; rfl), trivial⟩ ?_
                       exact ih (m9 - 1) (by omega) (i + 1) (by omega) (by omega))
                    | (have e9 : nx1 ρ lk (i + 1) = none := (nx1_n eo).trans (if_neg (fun q => p22 q.2))
                       refine x_ls [(0, .ref m), (1, .ref a), (2, .int (enc (nx1 ρ lk (i + 1)))), (3, .int (nI (i + 1)))] ⟨rfl, rfl, (by rw [e9]; rfl), (by rw [← nI_add]; rfl), trivial⟩ ?_
                       exact ih (m9 - 1) (by omega) (i + 1) (by omega) (by omega))
                    | (have e9 : nx1 ρ lk (i + 1) = none := (nx1_n eo).trans (if_neg (fun q => c17 q.1))
                       refine x_ls [(0, .ref m), (1, .ref a), (2, .int (enc (nx1 ρ lk (i + 1)))), (3, .int (nI (i + 1)))] ⟨rfl, rfl, (by rw [e9]; rfl), (by rw [← nI_add]; rfl), trivial⟩ ?_
                       exact ih (m9 - 1) (by omega) (i + 1) (by omega) (by omega))
                · exact absurd rfl c42
            · have p22 := (ite01 hr22).2 c25
              refine x_iconst (v := nI 1) dX5_next_28 (by decide) ?_
              refine x_goto (tgt := 33) dX5_next_29 (by decide) ?_
              refine x_istore dX5_next_33 (by decide) ?_
              refine x_iload dX5_next_35 rfl ?_
              refine x_if_eq (tgt := 58) dX5_next_37 (by decide) (fun c37 => ?_) (fun c37 => ?_)
              · refine x_iload_n dX5_next_58 rfl ?_
                refine x_istore_n dX5_next_59 (by decide) ?_
                refine x_iinc (v := nI 1) dX5_next_60 rfl (by decide) (by decide) ?_
                refine x_goto (tgt := 4) dX5_next_63 (by decide) ?_
                first
                  | exact absurd c37 (by decide)
                  | exact absurd rfl c37
                  | (have e9 : nx1 ρ lk (i + 1) = some i := (nx1_n eo).trans (if_pos ⟨c17, p22⟩)
                     refine x_ls [(0, .ref m), (1, .ref a), (2, .int (enc (nx1 ρ lk (i + 1)))), (3, .int (nI (i + 1)))] ⟨rfl, rfl, (by rw [e9]; rfl), (by rw [← nI_add]; rfl), trivial⟩ ?_
                     exact ih (m9 - 1) (by omega) (i + 1) (by omega) (by omega))
                  | (have e9 : nx1 ρ lk (i + 1) = none := (nx1_n eo).trans (if_neg (fun q => p22 q.2))
                     refine x_ls [(0, .ref m), (1, .ref a), (2, .int (enc (nx1 ρ lk (i + 1)))), (3, .int (nI (i + 1)))] ⟨rfl, rfl, (by rw [e9]; rfl), (by rw [← nI_add]; rfl), trivial⟩ ?_
                     exact ih (m9 - 1) (by omega) (i + 1) (by omega) (by omega))
                  | (have e9 : nx1 ρ lk (i + 1) = none := (nx1_n eo).trans (if_neg (fun q => c17 q.1))
                     refine x_ls [(0, .ref m), (1, .ref a), (2, .int (enc (nx1 ρ lk (i + 1)))), (3, .int (nI (i + 1)))] ⟨rfl, rfl, (by rw [e9]; rfl), (by rw [← nI_add]; rfl), trivial⟩ ?_
                     exact ih (m9 - 1) (by omega) (i + 1) (by omega) (by omega))
              · refine x_iload_n dX5_next_40 rfl ?_
                refine x_iconst (v := (-1)) dX5_next_41 (by decide) ?_
                refine x_icmp_eq (tgt := 54) dX5_next_42 (by decide) (fun c42 => ?_) (fun c42 => ?_)
                · refine x_iload_n dX5_next_54 rfl ?_
                  refine x_goto (tgt := 59) dX5_next_55 (by decide) ?_
                  refine x_istore_n dX5_next_59 (by decide) ?_
                  refine x_iinc (v := nI 1) dX5_next_60 rfl (by decide) (by decide) ?_
                  refine x_goto (tgt := 4) dX5_next_63 (by decide) ?_
                  first
                    | exact absurd c37 (by decide)
                    | exact absurd rfl c37
                    | (have e9 : nx1 ρ lk (i + 1) = some i := (nx1_n eo).trans (if_pos ⟨c17, p22⟩)
                       refine x_ls [(0, .ref m), (1, .ref a), (2, .int (enc (nx1 ρ lk (i + 1)))), (3, .int (nI (i + 1)))] ⟨rfl, rfl, (by rw [e9]; rfl), (by rw [← nI_add]; rfl), trivial⟩ ?_
                       exact ih (m9 - 1) (by omega) (i + 1) (by omega) (by omega))
                    | (have e9 : nx1 ρ lk (i + 1) = none := (nx1_n eo).trans (if_neg (fun q => p22 q.2))
                       refine x_ls [(0, .ref m), (1, .ref a), (2, .int (enc (nx1 ρ lk (i + 1)))), (3, .int (nI (i + 1)))] ⟨rfl, rfl, (by rw [e9]; rfl), (by rw [← nI_add]; rfl), trivial⟩ ?_
                       exact ih (m9 - 1) (by omega) (i + 1) (by omega) (by omega))
                    | (have e9 : nx1 ρ lk (i + 1) = none := (nx1_n eo).trans (if_neg (fun q => c17 q.1))
                       refine x_ls [(0, .ref m), (1, .ref a), (2, .int (enc (nx1 ρ lk (i + 1)))), (3, .int (nI (i + 1)))] ⟨rfl, rfl, (by rw [e9]; rfl), (by rw [← nI_add]; rfl), trivial⟩ ?_
                       exact ih (m9 - 1) (by omega) (i + 1) (by omega) (by omega))
                · exact absurd rfl c42
      | some o9 =>
        obtain ⟨n1, n2, n3⟩ := nx1_in eo
        refine x_iload_n dX5_next_4 rfl ?_
        refine x_aload_n dX5_next_5 rfl ?_
        refine x_iconst (v := nI 1) dX5_next_6 (by decide) ?_
        refine x_row _ hO dX5_next_7 hA hV rfl (by omega) ?_
        refine x_icmp_ge (tgt := 66) dX5_next_8 (by decide) (fun c8 => ?_) (fun c8 => ?_)
        · simp (disch := omega) only [nI_leI] at c8
          have : i = ρ 1 := by omega
          subst this
          exact kk _ eo
        · simp (disch := omega) only [nI_leI] at c8
          have hi8 : i < ρ 1 := by omega
          have hl1 := hl i
          obtain ⟨b0, b0', b1, b2, b2', b3, b4, b34, b6⟩ := wB i hi8
          refine x_aload_n dX5_next_11 rfl ?_
          refine x_get 7 hO dX5_next_12 f_X5_47 (by first | (simp only [gK_wI]; assumption) | assumption) ⟨by decide, by decide⟩ (v := .ref (m + 13)) (congrArg va_rf g18) ?_
          refine x_iload_n dX5_next_15 rfl ?_
          refine x_zald i 8 hO dX5_next_16 k13.1 rfl k13.2 (by omega) (by decide) (fun z16 => ?_)
          rw [hlk i (by omega)] at z16 ⊢
          refine x_if_ne (tgt := 32) dX5_next_17 (by decide) (fun c17 => ?_) (fun c17 => ?_)
          · simp (disch := omega) only [nI_z] at c17
            refine x_iconst (v := nI 0) dX5_next_32 (by decide) ?_
            refine x_istore dX5_next_33 (by decide) ?_
            refine x_iload dX5_next_35 rfl ?_
            refine x_if_eq (tgt := 58) dX5_next_37 (by decide) (fun c37 => ?_) (fun c37 => ?_)
            · refine x_iload_n dX5_next_58 rfl ?_
              refine x_istore_n dX5_next_59 (by decide) ?_
              refine x_iinc (v := nI 1) dX5_next_60 rfl (by decide) (by decide) ?_
              refine x_goto (tgt := 4) dX5_next_63 (by decide) ?_
              first
                | exact absurd c37 (by decide)
                | exact absurd rfl c37
                | (have e9 : nx1 ρ lk (i + 1) = some i := (nx1_o eo).trans (if_pos ⟨c17, p22, p48⟩)
                   refine x_ls [(0, .ref m), (1, .ref a), (2, .int (enc (nx1 ρ lk (i + 1)))), (3, .int (nI (i + 1)))] ⟨rfl, rfl, (by rw [e9]; rfl), (by rw [← nI_add]; rfl), trivial⟩ ?_
                   exact ih (m9 - 1) (by omega) (i + 1) (by omega) (by omega))
                | (have e9 : nx1 ρ lk (i + 1) = some o9 := (nx1_o eo).trans (if_neg (fun q => p48 q.2.2))
                   refine x_ls [(0, .ref m), (1, .ref a), (2, .int (enc (nx1 ρ lk (i + 1)))), (3, .int (nI (i + 1)))] ⟨rfl, rfl, (by rw [e9]; rfl), (by rw [← nI_add]; rfl), trivial⟩ ?_
                   exact ih (m9 - 1) (by omega) (i + 1) (by omega) (by omega))
                | (have e9 : nx1 ρ lk (i + 1) = some o9 := (nx1_o eo).trans (if_neg (fun q => p22 q.2.1))
                   refine x_ls [(0, .ref m), (1, .ref a), (2, .int (enc (nx1 ρ lk (i + 1)))), (3, .int (nI (i + 1)))] ⟨rfl, rfl, (by rw [e9]; rfl), (by rw [← nI_add]; rfl), trivial⟩ ?_
                   exact ih (m9 - 1) (by omega) (i + 1) (by omega) (by omega))
                | (have e9 : nx1 ρ lk (i + 1) = some o9 := (nx1_o eo).trans (if_neg (fun q => c17 q.1))
                   refine x_ls [(0, .ref m), (1, .ref a), (2, .int (enc (nx1 ρ lk (i + 1)))), (3, .int (nI (i + 1)))] ⟨rfl, rfl, (by rw [e9]; rfl), (by rw [← nI_add]; rfl), trivial⟩ ?_
                   exact ih (m9 - 1) (by omega) (i + 1) (by omega) (by omega))
            · exact absurd rfl c37
          · simp (disch := omega) only [nI_z] at c17
            refine x_aload_n dX5_next_20 rfl ?_
            refine x_iload_n dX5_next_21 rfl ?_
            refine x_callS (As := [_, _]) hO dX5_next_22 o_X5_wants s_X5_wants l_X5_86 ⟨by decide, by decide⟩ ⟨by decide, by decide⟩ rfl rfl (Nat.le_of_ble_eq_true rfl) (r_wants hO hA hV (by omega) ⟨by omega, by omega, by omega, by omega⟩ (fun r22 hr22 => ?_))
            dsimp only [Option.toList, List.cons_append, List.nil_append]
            refine x_if_eq (tgt := 32) dX5_next_25 (by decide) (fun c25 => ?_) (fun c25 => ?_)
            · have p22 := (ite01 hr22).1 c25
              refine x_iconst (v := nI 0) dX5_next_32 (by decide) ?_
              refine x_istore dX5_next_33 (by decide) ?_
              refine x_iload dX5_next_35 rfl ?_
              refine x_if_eq (tgt := 58) dX5_next_37 (by decide) (fun c37 => ?_) (fun c37 => ?_)
              · refine x_iload_n dX5_next_58 rfl ?_
                refine x_istore_n dX5_next_59 (by decide) ?_
                refine x_iinc (v := nI 1) dX5_next_60 rfl (by decide) (by decide) ?_
                refine x_goto (tgt := 4) dX5_next_63 (by decide) ?_
                first
                  | exact absurd c37 (by decide)
                  | exact absurd rfl c37
                  | (have e9 : nx1 ρ lk (i + 1) = some i := (nx1_o eo).trans (if_pos ⟨c17, p22, p48⟩)
                     refine x_ls [(0, .ref m), (1, .ref a), (2, .int (enc (nx1 ρ lk (i + 1)))), (3, .int (nI (i + 1)))] ⟨rfl, rfl, (by rw [e9]; rfl), (by rw [← nI_add]; rfl), trivial⟩ ?_
                     exact ih (m9 - 1) (by omega) (i + 1) (by omega) (by omega))
                  | (have e9 : nx1 ρ lk (i + 1) = some o9 := (nx1_o eo).trans (if_neg (fun q => p48 q.2.2))
                     refine x_ls [(0, .ref m), (1, .ref a), (2, .int (enc (nx1 ρ lk (i + 1)))), (3, .int (nI (i + 1)))] ⟨rfl, rfl, (by rw [e9]; rfl), (by rw [← nI_add]; rfl), trivial⟩ ?_
                     exact ih (m9 - 1) (by omega) (i + 1) (by omega) (by omega))
                  | (have e9 : nx1 ρ lk (i + 1) = some o9 := (nx1_o eo).trans (if_neg (fun q => p22 q.2.1))
                     refine x_ls [(0, .ref m), (1, .ref a), (2, .int (enc (nx1 ρ lk (i + 1)))), (3, .int (nI (i + 1)))] ⟨rfl, rfl, (by rw [e9]; rfl), (by rw [← nI_add]; rfl), trivial⟩ ?_
                     exact ih (m9 - 1) (by omega) (i + 1) (by omega) (by omega))
                  | (have e9 : nx1 ρ lk (i + 1) = some o9 := (nx1_o eo).trans (if_neg (fun q => c17 q.1))
                     refine x_ls [(0, .ref m), (1, .ref a), (2, .int (enc (nx1 ρ lk (i + 1)))), (3, .int (nI (i + 1)))] ⟨rfl, rfl, (by rw [e9]; rfl), (by rw [← nI_add]; rfl), trivial⟩ ?_
                     exact ih (m9 - 1) (by omega) (i + 1) (by omega) (by omega))
              · exact absurd rfl c37
            · have p22 := (ite01 hr22).2 c25
              refine x_iconst (v := nI 1) dX5_next_28 (by decide) ?_
              refine x_goto (tgt := 33) dX5_next_29 (by decide) ?_
              refine x_istore dX5_next_33 (by decide) ?_
              refine x_iload dX5_next_35 rfl ?_
              refine x_if_eq (tgt := 58) dX5_next_37 (by decide) (fun c37 => ?_) (fun c37 => ?_)
              · exact absurd c37 (by decide)
              · refine x_iload_n dX5_next_40 rfl ?_
                refine x_iconst (v := (-1)) dX5_next_41 (by decide) ?_
                refine x_icmp_eq (tgt := 54) dX5_next_42 (by decide) (fun c42 => ?_) (fun c42 => ?_)
                · exact absurd c42 (enc_some (by omega))
                · change Ex G M_X5_next Q X (mC M_X5_next) (mS M_X5_next) 45 [(4, _), (0, .ref m), (1, .ref a), (2, .int (nI o9)), (3, .int (nI i))] [] C
                  refine x_aload_n dX5_next_45 rfl ?_
                  refine x_iload_n dX5_next_46 rfl ?_
                  refine x_iload_n dX5_next_47 rfl ?_
                  refine x_callS (As := [_, _, _]) hO dX5_next_48 o_X5_isAhead s_X5_isAhead l_X5_89 ⟨by decide, by decide⟩ ⟨by decide, by decide⟩ rfl rfl (Nat.le_of_ble_eq_true rfl) (r_isAhead hO hA hV hW h0 (by omega) (by omega) p22 n3 (fun r48 hr48 => ?_))
                  dsimp only [Option.toList, List.cons_append, List.nil_append]
                  refine x_if_eq (tgt := 58) dX5_next_51 (by decide) (fun c51 => ?_) (fun c51 => ?_)
                  · have p48 := (ite01 hr48).1 c51
                    refine x_iload_n dX5_next_58 rfl ?_
                    refine x_istore_n dX5_next_59 (by decide) ?_
                    refine x_iinc (v := nI 1) dX5_next_60 rfl (by decide) (by decide) ?_
                    refine x_goto (tgt := 4) dX5_next_63 (by decide) ?_
                    first
                      | exact absurd c37 (by decide)
                      | exact absurd rfl c37
                      | (have e9 : nx1 ρ lk (i + 1) = some i := (nx1_o eo).trans (if_pos ⟨c17, p22, p48⟩)
                         refine x_ls [(0, .ref m), (1, .ref a), (2, .int (enc (nx1 ρ lk (i + 1)))), (3, .int (nI (i + 1)))] ⟨rfl, rfl, (by rw [e9]; rfl), (by rw [← nI_add]; rfl), trivial⟩ ?_
                         exact ih (m9 - 1) (by omega) (i + 1) (by omega) (by omega))
                      | (have e9 : nx1 ρ lk (i + 1) = some o9 := (nx1_o eo).trans (if_neg (fun q => p48 q.2.2))
                         refine x_ls [(0, .ref m), (1, .ref a), (2, .int (enc (nx1 ρ lk (i + 1)))), (3, .int (nI (i + 1)))] ⟨rfl, rfl, (by rw [e9]; rfl), (by rw [← nI_add]; rfl), trivial⟩ ?_
                         exact ih (m9 - 1) (by omega) (i + 1) (by omega) (by omega))
                      | (have e9 : nx1 ρ lk (i + 1) = some o9 := (nx1_o eo).trans (if_neg (fun q => p22 q.2.1))
                         refine x_ls [(0, .ref m), (1, .ref a), (2, .int (enc (nx1 ρ lk (i + 1)))), (3, .int (nI (i + 1)))] ⟨rfl, rfl, (by rw [e9]; rfl), (by rw [← nI_add]; rfl), trivial⟩ ?_
                         exact ih (m9 - 1) (by omega) (i + 1) (by omega) (by omega))
                      | (have e9 : nx1 ρ lk (i + 1) = some o9 := (nx1_o eo).trans (if_neg (fun q => c17 q.1))
                         refine x_ls [(0, .ref m), (1, .ref a), (2, .int (enc (nx1 ρ lk (i + 1)))), (3, .int (nI (i + 1)))] ⟨rfl, rfl, (by rw [e9]; rfl), (by rw [← nI_add]; rfl), trivial⟩ ?_
                         exact ih (m9 - 1) (by omega) (i + 1) (by omega) (by omega))
                  · have p48 := (ite01 hr48).2 c51
                    refine x_iload_n dX5_next_54 rfl ?_
                    refine x_goto (tgt := 59) dX5_next_55 (by decide) ?_
                    refine x_istore_n dX5_next_59 (by decide) ?_
                    refine x_iinc (v := nI 1) dX5_next_60 rfl (by decide) (by decide) ?_
                    refine x_goto (tgt := 4) dX5_next_63 (by decide) ?_
                    first
                      | exact absurd c37 (by decide)
                      | exact absurd rfl c37
                      | (have e9 : nx1 ρ lk (i + 1) = some i := (nx1_o eo).trans (if_pos ⟨c17, p22, p48⟩)
                         refine x_ls [(0, .ref m), (1, .ref a), (2, .int (enc (nx1 ρ lk (i + 1)))), (3, .int (nI (i + 1)))] ⟨rfl, rfl, (by rw [e9]; rfl), (by rw [← nI_add]; rfl), trivial⟩ ?_
                         exact ih (m9 - 1) (by omega) (i + 1) (by omega) (by omega))
                      | (have e9 : nx1 ρ lk (i + 1) = some o9 := (nx1_o eo).trans (if_neg (fun q => p48 q.2.2))
                         refine x_ls [(0, .ref m), (1, .ref a), (2, .int (enc (nx1 ρ lk (i + 1)))), (3, .int (nI (i + 1)))] ⟨rfl, rfl, (by rw [e9]; rfl), (by rw [← nI_add]; rfl), trivial⟩ ?_
                         exact ih (m9 - 1) (by omega) (i + 1) (by omega) (by omega))
                      | (have e9 : nx1 ρ lk (i + 1) = some o9 := (nx1_o eo).trans (if_neg (fun q => p22 q.2.1))
                         refine x_ls [(0, .ref m), (1, .ref a), (2, .int (enc (nx1 ρ lk (i + 1)))), (3, .int (nI (i + 1)))] ⟨rfl, rfl, (by rw [e9]; rfl), (by rw [← nI_add]; rfl), trivial⟩ ?_
                         exact ih (m9 - 1) (by omega) (i + 1) (by omega) (by omega))
                      | (have e9 : nx1 ρ lk (i + 1) = some o9 := (nx1_o eo).trans (if_neg (fun q => c17 q.1))
                         refine x_ls [(0, .ref m), (1, .ref a), (2, .int (enc (nx1 ρ lk (i + 1)))), (3, .int (nI (i + 1)))] ⟨rfl, rfl, (by rw [e9]; rfl), (by rw [← nI_add]; rfl), trivial⟩ ?_
                         exact ih (m9 - 1) (by omega) (i + 1) (by omega) (by omega))
  have loop2 : (∀ r, NxD ρ lk 0 r → Q (some (.int (enc r))) C) → ∀ (b : Nat) (r : Option Nat), NxD ρ lk b r → b ≤ ρ 1 → Ex G M_X5_next Q X (mC M_X5_next) (mS M_X5_next) 86 [(0, .ref m), (1, .ref a), (2, .int (enc r)), (3, .int (nI b + -1))] [] C := by
    intro kk b
    induction b with
    | zero =>
      intro r hr hb
      refine x_iload_n dX5_next_86 rfl ?_
      refine x_if_lt (tgt := 130) dX5_next_87 (by decide) (fun c87 => ?_) (fun c87 => absurd (show (nI 0 + -1 : Int32) < 0 by decide) c87)
      refine x_iload_n dX5_next_130 rfl ?_
      refine x_iret dX5_next_131 rfl rfl ?_
      exact kk r hr
    | succ b ih =>
      intro r hr hb
      rw [nI_dec]
      refine x_iload_n dX5_next_86 rfl ?_
      refine x_if_lt (tgt := 130) dX5_next_87 (by decide) (fun c87 => ?_) (fun c87 => ?_)
      · exact absurd c87 (by exact nI_pos (by omega))
      · have hl1 := hl b
        obtain ⟨b0, b0', b1, b2, b2', b3, b4, b34, b6⟩ := wB b (by omega)
        refine x_aload_n dX5_next_90 rfl ?_
        refine x_get 7 hO dX5_next_91 f_X5_47 (by first | (simp only [gK_wI]; assumption) | assumption) ⟨by decide, by decide⟩ (v := .ref (m + 13)) (congrArg va_rf g18) ?_
        refine x_iload_n dX5_next_94 rfl ?_
        refine x_zald b 8 hO dX5_next_95 k13.1 rfl k13.2 (by omega) (by decide) (fun z95 => ?_)
        rw [hlk b (by omega)] at z95 ⊢
        refine x_if_ne (tgt := 122) dX5_next_96 (by decide) (fun c96 => ?_) (fun c96 => ?_)
        · simp (disch := omega) only [nI_z] at c96
          refine x_iload_n dX5_next_122 rfl ?_
          refine x_istore_n dX5_next_123 (by decide) ?_
          refine x_iinc (v := (-1)) dX5_next_124 rfl (by decide) (by decide) ?_
          refine x_goto (tgt := 86) dX5_next_127 (by decide) ?_
          first
            | (refine x_ls [(0, .ref m), (1, .ref a), (2, .int (enc (some b))), (3, .int (nI b + -1))] ⟨rfl, rfl, rfl, rfl, trivial⟩ ?_
               refine ih (some b) ⟨Nat.le_refl _, by omega, ⟨c96, c107, p112⟩, fun i h1 h2 => by omega⟩ (by omega)
               done)
            | (refine x_ls [(0, .ref m), (1, .ref a), (2, .int (enc r)), (3, .int (nI b + -1))] ⟨rfl, rfl, rfl, rfl, trivial⟩ ?_
               refine ih r (NxD_dn hr (fun q => ?_)) (by omega)
               first | exact p112 q.2.2 | exact q.2.2 p112 | exact c107 q.2.1 | exact c96 q.1)
        · simp (disch := omega) only [nI_z] at c96
          refine x_aload_n dX5_next_99 rfl ?_
          refine x_iload_n dX5_next_100 rfl ?_
          refine x_bipush (v := nI 6) dX5_next_101 (by decide) ?_
          refine x_callS (As := [_, _]) hO dX5_next_103 o_X5_busAt s_X5_busAt l_X5_67 ⟨by decide, by decide⟩ ⟨by decide, by decide⟩ rfl rfl (Nat.le_of_ble_eq_true rfl) (r_busAt hO ?_)
          dsimp only [Option.toList, List.cons_append, List.nil_append]
          refine x_row _ hO dX5_next_106 hA hV rfl (by simp only [bi]; omega) ?_
          refine x_if_ne (tgt := 122) dX5_next_107 (by decide) (fun c107 => ?_) (fun c107 => ?_)
          · simp (disch := omega) only [nI_z] at c107
            refine x_iload_n dX5_next_122 rfl ?_
            refine x_istore_n dX5_next_123 (by decide) ?_
            refine x_iinc (v := (-1)) dX5_next_124 rfl (by decide) (by decide) ?_
            refine x_goto (tgt := 86) dX5_next_127 (by decide) ?_
            first
              | (refine x_ls [(0, .ref m), (1, .ref a), (2, .int (enc (some b))), (3, .int (nI b + -1))] ⟨rfl, rfl, rfl, rfl, trivial⟩ ?_
                 refine ih (some b) ⟨Nat.le_refl _, by omega, ⟨c96, c107, p112⟩, fun i h1 h2 => by omega⟩ (by omega)
                 done)
              | (refine x_ls [(0, .ref m), (1, .ref a), (2, .int (enc r)), (3, .int (nI b + -1))] ⟨rfl, rfl, rfl, rfl, trivial⟩ ?_
                 refine ih r (NxD_dn hr (fun q => ?_)) (by omega)
                 first | exact p112 q.2.2 | exact q.2.2 p112 | exact c107 q.2.1 | exact c96 q.1)
          · simp (disch := omega) only [nI_z] at c107
            refine x_aload_n dX5_next_110 rfl ?_
            refine x_iload_n dX5_next_111 rfl ?_
            refine x_callS (As := [_, _]) hO dX5_next_112 o_X5_isFull s_X5_isFull l_X5_79 ⟨by decide, by decide⟩ ⟨by decide, by decide⟩ rfl rfl (Nat.le_of_ble_eq_true rfl) (r_isFull hO hA hV (by omega) ⟨by omega, by omega⟩ (fun r112 hr112 => ?_))
            dsimp only [Option.toList, List.cons_append, List.nil_append]
            refine x_if_ne (tgt := 122) dX5_next_115 (by decide) (fun c115 => ?_) (fun c115 => ?_)
            · have p112 := (ite01 hr112).2 c115
              refine x_iload_n dX5_next_122 rfl ?_
              refine x_istore_n dX5_next_123 (by decide) ?_
              refine x_iinc (v := (-1)) dX5_next_124 rfl (by decide) (by decide) ?_
              refine x_goto (tgt := 86) dX5_next_127 (by decide) ?_
              first
                | (refine x_ls [(0, .ref m), (1, .ref a), (2, .int (enc (some b))), (3, .int (nI b + -1))] ⟨rfl, rfl, rfl, rfl, trivial⟩ ?_
                   refine ih (some b) ⟨Nat.le_refl _, by omega, ⟨c96, c107, p112⟩, fun i h1 h2 => by omega⟩ (by omega)
                   done)
                | (refine x_ls [(0, .ref m), (1, .ref a), (2, .int (enc r)), (3, .int (nI b + -1))] ⟨rfl, rfl, rfl, rfl, trivial⟩ ?_
                   refine ih r (NxD_dn hr (fun q => ?_)) (by omega)
                   first | exact p112 q.2.2 | exact q.2.2 p112 | exact c107 q.2.1 | exact c96 q.1)
            · have p112 := (ite01 hr112).1 c115
              refine x_iload_n dX5_next_118 rfl ?_
              refine x_goto (tgt := 123) dX5_next_119 (by decide) ?_
              refine x_istore_n dX5_next_123 (by decide) ?_
              refine x_iinc (v := (-1)) dX5_next_124 rfl (by decide) (by decide) ?_
              refine x_goto (tgt := 86) dX5_next_127 (by decide) ?_
              first
                | (refine x_ls [(0, .ref m), (1, .ref a), (2, .int (enc (some b))), (3, .int (nI b + -1))] ⟨rfl, rfl, rfl, rfl, trivial⟩ ?_
                   refine ih (some b) ⟨Nat.le_refl _, by omega, ⟨c96, c107, p112⟩, fun i h1 h2 => by omega⟩ (by omega)
                   done)
                | (refine x_ls [(0, .ref m), (1, .ref a), (2, .int (enc r)), (3, .int (nI b + -1))] ⟨rfl, rfl, rfl, rfl, trivial⟩ ?_
                   refine ih r (NxD_dn hr (fun q => ?_)) (by omega)
                   first | exact p112 q.2.2 | exact q.2.2 p112 | exact c107 q.2.1 | exact c96 q.1)
  have key : ∀ o, nx1 ρ lk (ρ 1) = o → Ex G M_X5_next Q X (mC M_X5_next) (mS M_X5_next) 66 [(0, .ref m), (1, .ref a), (2, .int (enc o)), (3, .int (nI (ρ 1)))] [] C := by
    intro o eo
    cases o with
    | none =>
      refine x_iload_n dX5_next_66 rfl ?_
      refine x_iconst (v := (-1)) dX5_next_67 (by decide) ?_
      refine x_icmp_ne (tgt := 78) dX5_next_68 (by decide) (fun c68 => ?_) (fun c68 => ?_)
      · exact absurd rfl c68
      · refine x_aload_n dX5_next_71 rfl ?_
        refine x_callS (As := [_]) hO dX5_next_72 o_X5_isNight s_X5_isNight l_X5_93 ⟨by decide, by decide⟩ ⟨by decide, by decide⟩ rfl rfl (Nat.le_of_ble_eq_true rfl) (r_isNight hO hA hV w12 h0 (fun r72 hr72 => ?_))
        dsimp only [Option.toList, List.cons_append, List.nil_append]
        refine x_if_ne (tgt := 80) dX5_next_75 (by decide) (fun c75 => ?_) (fun c75 => ?_)
        · have p72 := (ite01 hr72).2 c75
          refine x_aload_n dX5_next_80 rfl ?_
          refine x_iconst (v := nI 1) dX5_next_81 (by decide) ?_
          refine x_row _ hO dX5_next_82 hA hV rfl (by omega) ?_
          refine x_iconst (v := nI 1) dX5_next_83 (by decide) ?_
          refine x_isub dX5_next_84 ?_
          rw [show nI (ρ 1) - nI 1 = nI (ρ 1) + -1 from Int32.sub_eq_add_neg _ _]
          refine x_istore_n dX5_next_85 (by decide) ?_
          refine x_ls [(0, .ref m), (1, .ref a), (2, .int (enc none)), (3, .int (nI (ρ 1) + -1))] ⟨rfl, rfl, rfl, rfl, trivial⟩ ?_
          refine loop2 (fun r hr => ?_) (ρ 1) none (fun i h1 h2 => by omega) (Nat.le_refl _)
          rw [show nxt ρ lk = r by unfold nxt; rw [eo]; exact (if_pos p72).trans (NxD_nx2 hr)] at hq
          exact hq
        · have p72 := (ite01 hr72).1 c75
          refine x_iload_n dX5_next_78 rfl ?_
          refine x_iret dX5_next_79 rfl rfl ?_
          rw [show nxt ρ lk = none by unfold nxt; rw [eo]; exact if_neg p72] at hq
          exact hq
    | some o9 =>
      obtain ⟨n1, n2, n3⟩ := nx1_in eo
      refine x_iload_n dX5_next_66 rfl ?_
      refine x_iconst (v := (-1)) dX5_next_67 (by decide) ?_
      refine x_icmp_ne (tgt := 78) dX5_next_68 (by decide) (fun c68 => ?_) (fun c68 => ?_)
      · refine x_iload_n dX5_next_78 rfl ?_
        refine x_iret dX5_next_79 rfl rfl ?_
        rw [show nxt ρ lk = some o9 by unfold nxt; rw [eo]] at hq
        exact hq
      · exact absurd c68 (enc_some (by omega))
  refine x_iconst (v := (-1)) dX5_next_0 (by decide) ?_
  refine x_istore_n dX5_next_1 (by decide) ?_
  refine x_iconst (v := nI 0) dX5_next_2 (by decide) ?_
  refine x_istore_n dX5_next_3 (by decide) ?_
  refine x_ls [(0, .ref m), (1, .ref a), (2, .int (enc (nx1 ρ lk 0))), (3, .int (nI 0))] ⟨rfl, rfl, rfl, rfl, trivial⟩ ?_
  exact loop key _ 0 rfl (Nat.zero_le _)

