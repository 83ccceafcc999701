/-! commands are done *)-/
def Rg (l : Nat) (a : Nat → Nat) : Prop := (∀ j, a j ≤ 999) ∧ (l = 98 ∨ (l = 112 ∧ 1 ≤ a 0 ∧ a 0 ≤ 50) ∨ (l = 114 ∧ 1 ≤ a 0 ∧ a 0 ≤ 48) ∨ l = 115)
theorem pW_a {S : Nat → Nat} {n : Nat} {w : List Nat} {s : PS} : (pW S n w s).2.2 = s.2.2 := by
  induction w generalizing s with
  | nil => rfl
  | cons c w ih =>
    show (pW S n w (pC S n c s)).2.2 = _
    rw [ih]
    unfold pC
    split <;> rfl
theorem pN_all {S : Nat → Nat} {n lo hi k : Nat} {s : PS} (h9 : hi ≤ 999) (h : ∀ j, s.2.2 j ≤ 999) (hg : (pN S n lo hi k s).1 = true) : ∀ j, (pN S n lo hi k s).2.2 j ≤ 999 := by
  intro j
  obtain ⟨a, b, c⟩ := pN_k h9 hg
  by_cases e : j = k
  · subst e; omega
  · rw [c j e]; exact h j
theorem pCmd_rg {S : Nat → Nat} {n p : Nat} (h : (pCmd S n p).1 = true) : Rg (ch S n p) (pCmd S n p).2.2 := by
  have z : ∀ w, ∀ j, (pW S n w (s0 p)).2.2 j ≤ 999 := fun w j => by rw [pW_a]; exact Nat.zero_le _
  unfold pCmd at h ⊢
  split
  · rename_i q
    rw [if_pos q] at h
    have e4 := (pN_t h).1
    have e3 := (pN_t e4).1
    have e2 := (pN_t e3).1
    have e1 := (pN_t e2).1
    exact ⟨pN_all (by decide) (pN_all (by decide) (pN_all (by decide) (pN_all (by decide) (pN_all (by decide) (z _) e1) e2) e3) e4) h, Or.inl q⟩
  · rename_i q
    rw [if_neg q] at h
    split
    · rename_i q2
      rw [if_pos q2] at h
      have := pN_k (by decide) h
      exact ⟨pN_all (by decide) (z _) h, Or.inr (Or.inl ⟨q2, this.1, this.2.1⟩)⟩
    · rename_i q2
      rw [if_neg q2] at h
      split
      · rename_i q3
        rw [if_pos q3] at h
        have := pN_k (by decide) h
        exact ⟨pN_all (by decide) (z _) h, Or.inr (Or.inr (Or.inl ⟨q3, this.1, this.2.1⟩))⟩
      · rename_i q3
        rw [if_neg q3] at h
        split
        · rename_i q4
          rw [if_pos q4] at h
          have e1 := (pN_t h).1
          exact ⟨pN_all (by decide) (pN_all (by decide) (z _) e1) h, Or.inr (Or.inr (Or.inr q4))⟩
        · rename_i q4
          rw [if_neg q4] at h
          exact absurd h (by simp)
theorem Ok_cmd {T l : Nat} {a : Nat → Nat} {ρ : Rw} (h : Ok T ρ) (hr : Rg l a) : Ok (T + 48) (dCmd l a ρ).2 := by
  have hm := Ok_mono h (show T ≤ T + 48 by omega)
  obtain ⟨r1, r2⟩ := hr
  unfold dCmd
  split
  · split
    · rename_i q
      exact Ok_addB hm q.1 q.2
    · exact hm
  · split
    · split
      · exact Ok_addC hm (by omega) (by omega) (by omega)
      · exact hm
    · split
      · exact Ok_mono (Ok_run h (n := a 0)) (by omega)
      · split
        · rename_i q
          exact Ok_stS hm q
        · exact hm

theorem s_doIn {G : GT} {C : AH} {Q : QT} {X : XT} {t : Nat} {sa va : Nat → Nat} {d l T : Nat} {a : Nat → Nat} {ρ : Rw} (hO : GO G) (hS : TxS C t) (hX : GX G sa va) (hSd : SkD C d) (hVd : VaD (gI C) d ρ) (hk : Ok T ρ) (hT : T + 48 ≤ 50000) (hl : gI C t 3 = nI l) (ha : ∀ j, j < cnt l → gI C (t + 2) j = nI (a j)) (hr : Rg l a) (hq : ∀ (r : Int32) (f : Nat → Nat → Int32), r = (if (dCmd l a ρ).1 = true then 1 else 0) → VaD f d (dCmd l a ρ).2 → (∀ a : Nat, a < d ∨ d + 13 ≤ a → f a = gI C a) → Q (some (.int r)) (wI C f)) : Mt G M_X3_doIn [.ref t, .ref d] C Q X := by
  refine Mt_of (by decide) (Nat.le_of_ble_eq_true rfl) ?_
  obtain ⟨k0, g0, g4, k1, n1, k2, n2⟩ := id hS
  have f4 : fV C 5 t 4 = .ref (t + 2) := congrArg va_rf g4
  have f3 : fV C 5 t 3 = .int (nI l) := congrArg Value.int hl
  have hKd := hSd.1
  obtain ⟨hW, hB⟩ := hk
  obtain ⟨r1, r2⟩ := hr
  refine x_aload_n dX3_doIn_0 rfl ?_
  refine x_get 5 hO dX3_doIn_1 f_X3_41 (by first | (simp only [gK_wI]; assumption) | assumption) ⟨by decide, by decide⟩ (v := .int (nI l)) f3 ?_
  skip
  rcases r2 with rfl | ⟨rfl, b1, b2⟩ | ⟨rfl, b1, b2⟩ | rfl
  · refine x_lookup (off := 44) (tgt := 48) dX3_doIn_4 rfl (by decide +kernel) (by decide) ?_
    have z0 := ha 0 (by decide)
    have z1 := ha 1 (by decide)
    have z2 := ha 2 (by decide)
    have z3 := ha 3 (by decide)
    have z4 := ha 4 (by decide)
    have y0 := r1 0
    have y1 := r1 1
    have y2 := r1 2
    have y3 := r1 3
    have y4 := r1 4
    refine x_aload_n dX3_doIn_48 rfl ?_
    refine x_aload_n dX3_doIn_49 rfl ?_
    refine x_get 5 hO dX3_doIn_50 f_X3_15 (by first | (simp only [gK_wI]; assumption) | assumption) ⟨by decide, by decide⟩ (v := .ref (t + 2)) f4 ?_
    refine x_iconst (v := nI 0) dX3_doIn_53 (by decide) ?_
    refine x_iald _ _ hO dX3_doIn_54 (by first | (simp only [gK_wI]; assumption) | assumption) rfl (by first | (simp only [gN_wI]; assumption) | assumption) (by omega) (by decide) ?_
    rw [z0]
    refine x_aload_n dX3_doIn_55 rfl ?_
    refine x_get 5 hO dX3_doIn_56 f_X3_15 (by first | (simp only [gK_wI]; assumption) | assumption) ⟨by decide, by decide⟩ (v := .ref (t + 2)) f4 ?_
    refine x_iconst (v := nI 1) dX3_doIn_59 (by decide) ?_
    refine x_iald _ _ hO dX3_doIn_60 (by first | (simp only [gK_wI]; assumption) | assumption) rfl (by first | (simp only [gN_wI]; assumption) | assumption) (by omega) (by decide) ?_
    rw [z1]
    refine x_aload_n dX3_doIn_61 rfl ?_
    refine x_get 5 hO dX3_doIn_62 f_X3_15 (by first | (simp only [gK_wI]; assumption) | assumption) ⟨by decide, by decide⟩ (v := .ref (t + 2)) f4 ?_
    refine x_iconst (v := nI 2) dX3_doIn_65 (by decide) ?_
    refine x_iald _ _ hO dX3_doIn_66 (by first | (simp only [gK_wI]; assumption) | assumption) rfl (by first | (simp only [gN_wI]; assumption) | assumption) (by omega) (by decide) ?_
    rw [z2]
    refine x_aload_n dX3_doIn_67 rfl ?_
    refine x_get 5 hO dX3_doIn_68 f_X3_15 (by first | (simp only [gK_wI]; assumption) | assumption) ⟨by decide, by decide⟩ (v := .ref (t + 2)) f4 ?_
    refine x_iconst (v := nI 3) dX3_doIn_71 (by decide) ?_
    refine x_iald _ _ hO dX3_doIn_72 (by first | (simp only [gK_wI]; assumption) | assumption) rfl (by first | (simp only [gN_wI]; assumption) | assumption) (by omega) (by decide) ?_
    rw [z3]
    refine x_aload_n dX3_doIn_73 rfl ?_
    refine x_get 5 hO dX3_doIn_74 f_X3_15 (by first | (simp only [gK_wI]; assumption) | assumption) ⟨by decide, by decide⟩ (v := .ref (t + 2)) f4 ?_
    refine x_iconst (v := nI 4) dX3_doIn_77 (by decide) ?_
    refine x_iald _ _ hO dX3_doIn_78 (by first | (simp only [gK_wI]; assumption) | assumption) rfl (by first | (simp only [gN_wI]; assumption) | assumption) (by omega) (by decide) ?_
    rw [z4]
    refine x_callV (As := [_, _, _, _, _]) 3 hO dX3_doIn_79 o_X1_tryPutBus v_X1_tryPutBus l_X3_44 ⟨by decide, by decide⟩ (by first | (simp only [gK_wI]; assumption) | assumption) ⟨by decide, by decide⟩ rfl ⟨by decide, by decide⟩ rfl rfl (Nat.le_of_ble_eq_true rfl) (s_tryPutBus hO hSd hVd hW (fun h8 h9 f hf1 hf2 => ?_) (fun h8 => ?_) (by omega))
    · dsimp only [Option.toList, List.cons_append, List.nil_append]
      refine x_iret dX3_doIn_82 rfl (by first | rfl | assumption) ?_
      have hd : dCmd 98 a ρ = (true, addB ρ (a 0) (a 1) (a 2) (a 3) (a 4)) := if_pos (show okBN (a 0) (a 1) (a 2) (a 3) (a 4) ∧ ρ 1 < 8 from ⟨h8, h9⟩)
      rw [hd] at hq
      exact hq 1 f rfl hf1 hf2
    · dsimp only [Option.toList, List.cons_append, List.nil_append]
      refine x_iret dX3_doIn_82 rfl (by first | rfl | assumption) ?_
      have hd : dCmd 98 a ρ = (false, ρ) := if_neg h8
      rw [hd] at hq
      exact hq 0 (gI C) rfl hVd (fun _ _ => rfl)
  · refine x_lookup (off := 79) (tgt := 83) dX3_doIn_4 rfl (by decide +kernel) (by decide) ?_
    have z0 := ha 0 (by decide)
    refine x_aload_n dX3_doIn_83 rfl ?_
    refine x_aload_n dX3_doIn_84 rfl ?_
    refine x_get 5 hO dX3_doIn_85 f_X3_15 (by first | (simp only [gK_wI]; assumption) | assumption) ⟨by decide, by decide⟩ (v := .ref (t + 2)) f4 ?_
    refine x_iconst (v := nI 0) dX3_doIn_88 (by decide) ?_
    refine x_iald _ _ hO dX3_doIn_89 (by first | (simp only [gK_wI]; assumption) | assumption) rfl (by first | (simp only [gN_wI]; assumption) | assumption) (by omega) (by decide) ?_
    rw [z0]
    refine x_callV (As := [_]) 3 hO dX3_doIn_90 o_X1_tryPutCharger v_X1_tryPutCharger l_X3_50 ⟨by decide, by decide⟩ (by first | (simp only [gK_wI]; assumption) | assumption) ⟨by decide, by decide⟩ rfl ⟨by decide, by decide⟩ rfl rfl (Nat.le_of_ble_eq_true rfl) (s_tryPutCharger hO hSd hVd hW (fun p h6 h7 h8 h9 f hf1 hf2 => ?_) (fun h8 => ?_))
    · dsimp only [Option.toList, List.cons_append, List.nil_append]
      refine x_iret dX3_doIn_93 rfl (by first | rfl | assumption) ?_
      have hd : dCmd 112 a ρ = (true, addC ρ (a 0)) := if_pos h9
      rw [hd] at hq
      have e := (nI_eq (by omega) (by omega)).mp h8
      subst e
      exact hq 1 f rfl hf1 hf2
    · dsimp only [Option.toList, List.cons_append, List.nil_append]
      refine x_iret dX3_doIn_93 rfl (by first | rfl | assumption) ?_
      have hd : dCmd 112 a ρ = (false, ρ) := if_neg (fun q => h8 ⟨a 0, b1, b2, rfl, q⟩)
      rw [hd] at hq
      exact hq 0 (gI C) rfl hVd (fun _ _ => rfl)
  · refine x_lookup (off := 90) (tgt := 94) dX3_doIn_4 rfl (by decide +kernel) (by decide) ?_
    have z0 := ha 0 (by decide)
    refine x_aload_n dX3_doIn_94 rfl ?_
    refine x_aload_n dX3_doIn_95 rfl ?_
    refine x_get 5 hO dX3_doIn_96 f_X3_15 (by first | (simp only [gK_wI]; assumption) | assumption) ⟨by decide, by decide⟩ (v := .ref (t + 2)) f4 ?_
    refine x_iconst (v := nI 0) dX3_doIn_99 (by decide) ?_
    refine x_iald _ _ hO dX3_doIn_100 (by first | (simp only [gK_wI]; assumption) | assumption) rfl (by first | (simp only [gN_wI]; assumption) | assumption) (by omega) (by decide) ?_
    rw [z0]
    refine x_callV (As := [_]) 3 hO dX3_doIn_101 o_X1_passHours v_X1_passHours l_X3_53 ⟨by decide, by decide⟩ (by first | (simp only [gK_wI]; assumption) | assumption) ⟨by decide, by decide⟩ rfl ⟨by decide, by decide⟩ rfl rfl (Nat.le_of_ble_eq_true rfl) (s_passHours hO hSd hVd hW hB (by omega) (fun f hf1 hf2 => ?_))
    dsimp only [Option.toList, List.cons_append, List.nil_append]
    refine x_iconst (v := nI 1) dX3_doIn_104 (by decide) ?_
    refine x_iret dX3_doIn_105 rfl (by first | rfl | assumption) ?_
    exact hq 1 f rfl hf1 hf2
  · refine x_lookup (off := 102) (tgt := 106) dX3_doIn_4 rfl (by decide +kernel) (by decide) ?_
    have z0 := ha 0 (by decide)
    have z1 := ha 1 (by decide)
    have y0 := r1 0
    have y1 := r1 1
    refine x_aload_n dX3_doIn_106 rfl ?_
    refine x_aload_n dX3_doIn_107 rfl ?_
    refine x_get 5 hO dX3_doIn_108 f_X3_15 (by first | (simp only [gK_wI]; assumption) | assumption) ⟨by decide, by decide⟩ (v := .ref (t + 2)) f4 ?_
    refine x_iconst (v := nI 0) dX3_doIn_111 (by decide) ?_
    refine x_iald _ _ hO dX3_doIn_112 (by first | (simp only [gK_wI]; assumption) | assumption) rfl (by first | (simp only [gN_wI]; assumption) | assumption) (by omega) (by decide) ?_
    rw [z0]
    refine x_aload_n dX3_doIn_113 rfl ?_
    refine x_get 5 hO dX3_doIn_114 f_X3_15 (by first | (simp only [gK_wI]; assumption) | assumption) ⟨by decide, by decide⟩ (v := .ref (t + 2)) f4 ?_
    refine x_iconst (v := nI 1) dX3_doIn_117 (by decide) ?_
    refine x_iald _ _ hO dX3_doIn_118 (by first | (simp only [gK_wI]; assumption) | assumption) rfl (by first | (simp only [gN_wI]; assumption) | assumption) (by omega) (by decide) ?_
    rw [z1]
    refine x_callV (As := [_, _]) 3 hO dX3_doIn_119 o_X1_tryChange v_X1_tryChange l_X3_57 ⟨by decide, by decide⟩ (by first | (simp only [gK_wI]; assumption) | assumption) ⟨by decide, by decide⟩ rfl ⟨by decide, by decide⟩ rfl rfl (Nat.le_of_ble_eq_true rfl) (s_tryChange hO hX hSd hVd hW (fun k x h6 h7 h8 f hf1 hf2 => ?_) (fun h8 => ?_))
    · dsimp only [Option.toList, List.cons_append, List.nil_append]
      refine x_iret dX3_doIn_122 rfl (by first | rfl | assumption) ?_
      have q2 : k < 6 := h8.1
      have q3 : x ≤ 999 := Nat.le_trans h8.2.2 (by unfold hiS; split <;> (try split) <;> (try split) <;> omega)
      have e := (nI_eq (by omega) (by omega)).mp h6
      have e2 := (nI_eq (by omega) (by omega)).mp h7
      subst e e2
      have hd : dCmd 115 a ρ = (true, stS ρ (a 0) (a 1)) := if_pos h8
      rw [hd] at hq
      exact hq 1 f rfl hf1 hf2
    · dsimp only [Option.toList, List.cons_append, List.nil_append]
      refine x_iret dX3_doIn_122 rfl (by first | rfl | assumption) ?_
      have hd : dCmd 115 a ρ = (false, ρ) := if_neg (fun q => h8 (okS_N.mpr ⟨a 0, a 1, rfl, rfl, q⟩))
      rw [hd] at hq
      exact hq 0 (gI C) rfl hVd (fun _ _ => rfl)

theorem s_doAllIn {G : GT} {C : AH} {Q : QT} {X : XT} {t n : Nat} {S : Nat → Nat} {sa va : Nat → Nat} {d T : Nat} {ρ : Rw} (hO : GO G) (hS : TxS C t) (hV : TxV (gI C) t S n) (hX : GX G sa va) (hSd : SkD C d) (hVd : VaD (gI C) d ρ) (hk : Ok T ρ) (hT : T + 6000 ≤ 50000) (hdt : d + 13 ≤ t ∨ t + 3 ≤ d) (hA : pAll S n (n + 1) 0 = none) (hq : ∀ (lo : Nat) (σ : Rw) (f : Nat → Nat → Int32), dAll S n (n + 1) 0 (ρ, 0) = (σ, lo) → Ok (T + 48 * (n + 1)) σ → VaD f d σ → (∀ j, j ≠ 2 → j ≠ 3 → f t j = gI C t j) → (∀ b, b ≠ t → b ≠ t + 2 → (b < d ∨ d + 13 ≤ b) → f b = gI C b) → Q (some (.int (nI lo))) (wI C f)) : Mt G M_X3_doAllIn [.ref t, .ref d] C Q X := by
  refine Mt_of (by decide) (Nat.le_of_ble_eq_true rfl) ?_
  obtain ⟨k0, g0, g4, k1, n1, k2, n2⟩ := id hS
  obtain ⟨v1, v2, v3⟩ := id hV
  have f0 : fV C 5 t 0 = .ref (t + 1) := congrArg va_rf g0
  have f4 : fV C 5 t 4 = .ref (t + 2) := congrArg va_rf g4
  have f1 : fV C 5 t 1 = .int (nI n) := congrArg Value.int v1
  have fin : ∀ (lo j : Nat) (σ : Rw) (f : Nat → Nat → Int32), dAll S n (n + 1) 0 (ρ, 0) = (σ, lo) → Ok (T + 48 * (n + 1)) σ → VaD f d σ → (∀ j, j ≠ 2 → j ≠ 3 → f t j = gI C t j) → (∀ b, b ≠ t → b ≠ t + 2 → (b < d ∨ d + 13 ≤ b) → f b = gI C b) → Ex G M_X3_doAllIn Q X (mC M_X3_doAllIn) (mS M_X3_doAllIn) 12 [(0, .ref t), (1, .ref d), (2, .int (nI (lo))), (3, .int 0), (4, .int (nI (j)))] [] (wI C f) := by
    intro lo j σ f e1 e2 e3 e4 e5
    refine x_iload_n dX3_doAllIn_12 rfl ?_
    refine x_if_eq (tgt := 56) dX3_doAllIn_13 (by decide) (fun c13 => ?_) (fun c13 => ?_)
    · refine x_iload_n dX3_doAllIn_56 rfl ?_
      refine x_iret dX3_doAllIn_57 rfl rfl ?_
      exact hq lo σ f e1 e2 e3 e4 e5
    · exact absurd rfl c13
  have loop : ∀ (m i p lo : Nat) (σ : Rw) (f : Nat → Nat → Int32), n + 1 - i = m → i ≤ p → p ≤ n → f t 2 = nI p → pAll S n (n + 1 - i) p = none → dAll S n (n + 1) 0 (ρ, 0) = dAll S n (n + 1 - i) p (σ, lo) → Ok (T + 48 * i) σ → VaD f d σ → (∀ j, j ≠ 2 → j ≠ 3 → f t j = gI C t j) → (∀ b, b ≠ t → b ≠ t + 2 → (b < d ∨ d + 13 ≤ b) → f b = gI C b) → Ex G M_X3_doAllIn Q X (mC M_X3_doAllIn) (mS M_X3_doAllIn) 12 [(0, .ref t), (1, .ref d), (2, .int (nI (lo))), (3, .int 1), (4, .int (nI (i)))] [] (wI C f) := by
    intro m
    induction m using Nat.strongRecOn with
    | _ m ih =>
    intro i p lo σ f hm hip hpn hat hA2 hD hOk hVf hfr1 hfr2
    have v1f : f t 1 = nI n := (hfr1 1 (by omega) (by omega)).trans v1
    have hVt : TxV f t S n := ⟨v1f, v2, fun q hq9 => by rw [hfr2 (t + 1) (by omega) (by omega) (by omega)]; exact v3 q hq9⟩
    have f1 : fV (wI C f) 5 t 1 = .int (nI n) := congrArg Value.int v1f
    have hle := pCmd_le (S := S) hpn
    obtain ⟨z, hz⟩ : ∃ z, n + 1 - i = z + 1 := ⟨n - i, by omega⟩
    rw [hz] at hA2
    have hA2 : (if (pCmd S n p).1 = true then (if (pCmd S n p).2.1 = n then none else if ch S n (pCmd S n p).2.1 = 59 then pAll S n z ((pCmd S n p).2.1 + 1) else some (pCmd S n p).2.1) else some (pCmd S n p).2.1) = none := hA2
    have hg : (pCmd S n p).1 = true := by
      by_cases e : (pCmd S n p).1 = true
      · exact e
      · rw [if_neg e] at hA2
        exact absurd hA2 (by simp)
    have hrg := pCmd_rg hg
    have hpl : p < n := ch_lt (S := S) rfl (by have := hrg.2; omega)
    have hcI : cI S n p = nI (ch S n p) := by
      unfold cI ch
      rw [if_pos hpl, if_pos hpl]
    refine x_iload_n dX3_doAllIn_12 rfl ?_
    refine x_if_eq (tgt := 56) dX3_doAllIn_13 (by decide) (fun c13 => ?_) (fun c13 => ?_)
    · exact absurd c13 (by decide)
    · refine x_iload dX3_doAllIn_16 rfl ?_
      refine x_aload_n dX3_doAllIn_18 rfl ?_
      refine x_get 5 hO dX3_doAllIn_19 f_X3_19 (by first | (simp only [gK_wI]; assumption) | assumption) ⟨by decide, by decide⟩ (v := .int (nI n)) f1 ?_
      refine x_icmp_gt (tgt := 56) dX3_doAllIn_22 (by decide) (fun c22 => ?_) (fun c22 => ?_)
      · simp (disch := omega) only [nI_ltI] at c22
        omega
      · refine x_aload_n dX3_doAllIn_25 rfl ?_
        refine x_callV (As := []) 5 hO dX3_doAllIn_26 o_X3_readCommand v_X3_readCommand l_X3_30 ⟨by decide, by decide⟩ (by first | (simp only [gK_wI]; assumption) | assumption) ⟨by decide, by decide⟩ rfl ⟨by decide, by decide⟩ rfl rfl (Nat.le_of_ble_eq_true rfl) (s_readCommand (C := wI C f) (p := p) hO hS hVt hX hpn hat (fun r26 f26 h26 => ?_))
        dsimp only [Option.toList, List.cons_append, List.nil_append]
        obtain ⟨r1, r2, r3, r4, r5⟩ := id h26
        simp only [gI_wI] at r4 r5
        have hone := (r2 hg).1
        subst hone
        have hVd26 : VaD f26 d σ := VaD_in hOk.1 hVf fun b hb1 hb2 => by
          rw [r5 b (by omega) (by omega)]
          exact funext fun j => up2_n (by omega)
        have hV26 : TxV f26 t S n := ⟨((r4 1 (by omega)).trans (up2_n (by omega))).trans v1f, v2, fun q hq9 => by
          rw [r5 (t + 1) (by omega) (by omega), up2_n (by omega)]
          exact hVt.2.2 q hq9⟩
        refine x_if_eq (tgt := 40) dX3_doAllIn_29 (by decide) (fun c29 => ?_) (fun c29 => ?_)
        · exact absurd c29 (by decide)
        · refine x_aload_n dX3_doAllIn_32 rfl ?_
          refine x_aload_n dX3_doAllIn_33 rfl ?_
          refine x_callV (As := [_]) 5 hO dX3_doAllIn_34 o_X3_doIn v_X3_doIn l_X3_37 ⟨by decide, by decide⟩ (by first | (simp only [gK_wI]; assumption) | assumption) ⟨by decide, by decide⟩ rfl ⟨by decide, by decide⟩ rfl rfl (Nat.le_of_ble_eq_true rfl) (s_doIn (C := wI C f26) (l := ch S n p) (a := (pCmd S n p).2.2) hO hS hX hSd hVd26 hOk (by omega) (((r4 3 (by omega)).trans up2_s).trans hcI) (r2 hg).2 hrg (fun r34 f34 hr34 hf1 hf2 => ?_))
          dsimp only [Option.toList, List.cons_append, List.nil_append]
          refine x_if_ne (tgt := 43) dX3_doAllIn_37 (by decide) (fun c37 => ?_) (fun c37 => ?_)
          · have p34 := (ite01 hr34).2 c37
            have eO : one S n p (σ, lo) = ((dCmd (ch S n p) (pCmd S n p).2.2 σ).2, lo) := congrArg (Prod.mk _) (if_pos p34)
            have FT1 : ∀ j, j ≠ 2 → j ≠ 3 → f34 t j = gI C t j := fun j h2 h3 => by
              rw [hf2 t (by omega)]
              exact ((r4 j h2).trans (up2_n (by omega))).trans (hfr1 j h2 h3)
            have FT2 : ∀ b, b ≠ t → b ≠ t + 2 → (b < d ∨ d + 13 ≤ b) → f34 b = gI C b := fun b h2 h3 h4 => by
              rw [hf2 b h4, ← hfr2 b h2 h3 h4]
              rw [show gI (wI C f26) b = f26 b from rfl, r5 b h2 h3]
              exact funext fun j => up2_n (by omega)
            have hV34 : TxV f34 t S n := by
              refine ⟨?_, v2, fun q hq9 => ?_⟩
              · rw [hf2 t (by omega)]
                exact hV26.1
              · rw [hf2 (t + 1) (by omega)]
                exact hV26.2.2 q hq9
            have hOk2 : Ok (T + 48 * (i + 1)) (dCmd (ch S n p) (pCmd S n p).2.2 σ).2 := Ok_mono (Ok_cmd hOk hrg) (by omega)
            refine x_aload_n dX3_doAllIn_43 rfl ?_
            refine x_bipush (v := nI 59) dX3_doAllIn_44 (by decide) ?_
            refine x_callV (As := [_]) 5 hO dX3_doAllIn_46 o_X3_readSign v_X3_readSign l_X3_33 ⟨by decide, by decide⟩ (by first | (simp only [gK_wI]; assumption) | assumption) ⟨by decide, by decide⟩ rfl ⟨by decide, by decide⟩ rfl rfl (Nat.le_of_ble_eq_true rfl) (s_readSign (C := wI C f34) (p := (pCmd S n p).2.1) (c := 59) hO hS hV34 (by omega) ((congrFun (hf2 t (by omega)) 2).trans r1) (by decide) (fun h46 => ?_) (fun h46 => ?_))
            · dsimp only [Option.toList, List.cons_append, List.nil_append]
              refine x_istore_n dX3_doAllIn_49 (by decide) ?_
              refine x_iinc (v := nI 1) dX3_doAllIn_50 rfl (by decide) (by decide) ?_
              refine x_goto (tgt := 12) dX3_doAllIn_53 (by decide) ?_
              simp only [wI_wI, gI_wI, nI_add]
              have hne : ¬ (pCmd S n p).2.1 = n := by have := ch_lt (S := S) (n := n) h46 (by decide); omega
              have hlt2 := ch_lt (S := S) (n := n) h46 (by decide)
              refine x_ls [(0, .ref t), (1, .ref d), (2, .int (nI (lo))), (3, .int 1), (4, .int (nI (i + 1)))] ⟨rfl, rfl, rfl, rfl, rfl, trivial⟩ ?_
              refine ih (m - 1) (by omega) (i + 1) ((pCmd S n p).2.1 + 1) (lo) _ _ (by omega) (by omega) (by omega) up2_s ?_ ?_ hOk2 ?_ ?_ ?_
              · rw [if_pos hg, if_neg hne, if_pos h46] at hA2
                rw [show n + 1 - (i + 1) = z by omega]
                exact hA2
              · rw [hD, hz, show n + 1 - (i + 1) = z by omega]
                show (if _ then _ else _) = _
                rw [if_neg hne, eO]
              · exact VaD_in hOk2.1 hf1 fun b hb1 hb2 => funext fun j => up2_n (by omega)
              · intro j h2 h3
                rw [up2_n (by omega)]
                exact FT1 j h2 h3
              · intro b h2 h3 h4
                rw [← FT2 b h2 h3 h4]
                exact funext fun j => up2_n (by omega)
            · dsimp only [Option.toList, List.cons_append, List.nil_append]
              refine x_istore_n dX3_doAllIn_49 (by decide) ?_
              refine x_iinc (v := nI 1) dX3_doAllIn_50 rfl (by decide) (by decide) ?_
              refine x_goto (tgt := 12) dX3_doAllIn_53 (by decide) ?_
              simp only [wI_wI, nI_add]
              have hne : (pCmd S n p).2.1 = n := by
                rw [if_pos hg, if_neg h46] at hA2
                by_cases e : (pCmd S n p).2.1 = n
                · exact e
                · rw [if_neg e] at hA2
                  exact absurd hA2 (by simp)
              refine x_ls [(0, .ref t), (1, .ref d), (2, .int (nI (lo))), (3, .int 0), (4, .int (nI (i + 1)))] ⟨rfl, rfl, rfl, rfl, rfl, trivial⟩ ?_
              refine fin _ _ _ _ ?_ (Ok_mono hOk2 (by omega)) hf1 FT1 FT2
              rw [hD, hz]
              show (if _ then _ else _) = _
              rw [if_pos hne, eO]
          · have p34 := (ite01 hr34).1 c37
            have eO : one S n p (σ, lo) = ((dCmd (ch S n p) (pCmd S n p).2.2 σ).2, lo + 1) := congrArg (Prod.mk _) (if_neg p34)
            have FT1 : ∀ j, j ≠ 2 → j ≠ 3 → f34 t j = gI C t j := fun j h2 h3 => by
              rw [hf2 t (by omega)]
              exact ((r4 j h2).trans (up2_n (by omega))).trans (hfr1 j h2 h3)
            have FT2 : ∀ b, b ≠ t → b ≠ t + 2 → (b < d ∨ d + 13 ≤ b) → f34 b = gI C b := fun b h2 h3 h4 => by
              rw [hf2 b h4, ← hfr2 b h2 h3 h4]
              rw [show gI (wI C f26) b = f26 b from rfl, r5 b h2 h3]
              exact funext fun j => up2_n (by omega)
            have hV34 : TxV f34 t S n := by
              refine ⟨?_, v2, fun q hq9 => ?_⟩
              · rw [hf2 t (by omega)]
                exact hV26.1
              · rw [hf2 (t + 1) (by omega)]
                exact hV26.2.2 q hq9
            have hOk2 : Ok (T + 48 * (i + 1)) (dCmd (ch S n p) (pCmd S n p).2.2 σ).2 := Ok_mono (Ok_cmd hOk hrg) (by omega)
            refine x_iinc (v := nI 1) dX3_doAllIn_40 rfl (by decide) (by decide) ?_
            refine x_aload_n dX3_doAllIn_43 rfl ?_
            refine x_bipush (v := nI 59) dX3_doAllIn_44 (by decide) ?_
            refine x_callV (As := [_]) 5 hO dX3_doAllIn_46 o_X3_readSign v_X3_readSign l_X3_33 ⟨by decide, by decide⟩ (by first | (simp only [gK_wI]; assumption) | assumption) ⟨by decide, by decide⟩ rfl ⟨by decide, by decide⟩ rfl rfl (Nat.le_of_ble_eq_true rfl) (s_readSign (C := wI C f34) (p := (pCmd S n p).2.1) (c := 59) hO hS hV34 (by omega) ((congrFun (hf2 t (by omega)) 2).trans r1) (by decide) (fun h46 => ?_) (fun h46 => ?_))
            · dsimp only [Option.toList, List.cons_append, List.nil_append]
              refine x_istore_n dX3_doAllIn_49 (by decide) ?_
              refine x_iinc (v := nI 1) dX3_doAllIn_50 rfl (by decide) (by decide) ?_
              refine x_goto (tgt := 12) dX3_doAllIn_53 (by decide) ?_
              simp only [wI_wI, gI_wI, nI_add]
              have hne : ¬ (pCmd S n p).2.1 = n := by have := ch_lt (S := S) (n := n) h46 (by decide); omega
              have hlt2 := ch_lt (S := S) (n := n) h46 (by decide)
              refine x_ls [(0, .ref t), (1, .ref d), (2, .int (nI (lo + 1))), (3, .int 1), (4, .int (nI (i + 1)))] ⟨rfl, rfl, rfl, rfl, rfl, trivial⟩ ?_
              refine ih (m - 1) (by omega) (i + 1) ((pCmd S n p).2.1 + 1) (lo + 1) _ _ (by omega) (by omega) (by omega) up2_s ?_ ?_ hOk2 ?_ ?_ ?_
              · rw [if_pos hg, if_neg hne, if_pos h46] at hA2
                rw [show n + 1 - (i + 1) = z by omega]
                exact hA2
              · rw [hD, hz, show n + 1 - (i + 1) = z by omega]
                show (if _ then _ else _) = _
                rw [if_neg hne, eO]
              · exact VaD_in hOk2.1 hf1 fun b hb1 hb2 => funext fun j => up2_n (by omega)
              · intro j h2 h3
                rw [up2_n (by omega)]
                exact FT1 j h2 h3
              · intro b h2 h3 h4
                rw [← FT2 b h2 h3 h4]
                exact funext fun j => up2_n (by omega)
            · dsimp only [Option.toList, List.cons_append, List.nil_append]
              refine x_istore_n dX3_doAllIn_49 (by decide) ?_
              refine x_iinc (v := nI 1) dX3_doAllIn_50 rfl (by decide) (by decide) ?_
              refine x_goto (tgt := 12) dX3_doAllIn_53 (by decide) ?_
              simp only [wI_wI, nI_add]
              have hne : (pCmd S n p).2.1 = n := by
                rw [if_pos hg, if_neg h46] at hA2
                by_cases e : (pCmd S n p).2.1 = n
                · exact e
                · rw [if_neg e] at hA2
                  exact absurd hA2 (by simp)
              refine x_ls [(0, .ref t), (1, .ref d), (2, .int (nI (lo + 1))), (3, .int 0), (4, .int (nI (i + 1)))] ⟨rfl, rfl, rfl, rfl, rfl, trivial⟩ ?_
              refine fin _ _ _ _ ?_ (Ok_mono hOk2 (by omega)) hf1 FT1 FT2
              rw [hD, hz]
              show (if _ then _ else _) = _
              rw [if_pos hne, eO]
  refine x_iconst (v := nI 0) dX3_doAllIn_0 (by decide) ?_
  refine x_istore_n dX3_doAllIn_1 (by decide) ?_
  refine x_iconst (v := nI 1) dX3_doAllIn_2 (by decide) ?_
  refine x_istore_n dX3_doAllIn_3 (by decide) ?_
  refine x_aload_n dX3_doAllIn_4 rfl ?_
  refine x_iconst (v := nI 0) dX3_doAllIn_5 (by decide) ?_
  refine x_putI 5 hO dX3_doAllIn_6 f_X3_27 (fw_5_2 _) (by first | (simp only [gK_wI]; assumption) | assumption) ⟨by decide, by decide⟩ rfl rfl ?_
  refine x_iconst (v := nI 0) dX3_doAllIn_9 (by decide) ?_
  refine x_istore dX3_doAllIn_10 (by decide) ?_
  refine x_ls [(0, .ref t), (1, .ref d), (2, .int (nI (0))), (3, .int 1), (4, .int (nI (0)))] ⟨rfl, rfl, rfl, rfl, rfl, trivial⟩ ?_
  exact loop _ 0 0 0 ρ _ rfl (Nat.le_refl _) (Nat.zero_le _) up2_s hA rfl hk (VaD_in hk.1 hVd fun b hb1 hb2 => funext fun j => up2_n (by omega)) (fun j h2 h3 => up2_n (by omega)) (fun b h2 h3 h4 => funext fun j => up2_n (by omega))

