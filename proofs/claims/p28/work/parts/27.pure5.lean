/-! what is done keeps the depot well formed *)-/
def Ok (T : Nat) (ρ : Rw) : Prop := Wf ρ ∧ Bd T 0 ρ
theorem Ok_mono {T U : Nat} {ρ : Rw} (h : Ok T ρ) (hU : T ≤ U) : Ok U ρ := by
  obtain ⟨hw, a, b, c, d, e, f⟩ := h
  exact ⟨hw, by omega, by omega, by omega, by omega, by omega, fun x hx => by have := f x hx; omega⟩
theorem Ok_run {T n : Nat} {ρ : Rw} (h : Ok T ρ) : Ok (T + n) (runN n ρ) := ⟨(runN_ok h.1 h.2).1, (runN_ok h.1 h.2).2.1⟩
theorem Ok_new : Ok 0 new0 := by
  refine ⟨⟨by decide, by decide, by decide, by decide, by decide, by decide, by decide, by decide, by decide, fun b hb => absurd hb (Nat.not_lt_zero b), fun c hc => absurd hc (Nat.not_lt_zero c)⟩, by decide, by decide, by decide, by decide, by decide, fun b hb => absurd hb (Nat.not_lt_zero b)⟩
theorem Ok_addB {T s c n l k : Nat} {ρ : Rw} (h : Ok T ρ) (hb : okBN s c n l k) (h8 : ρ 1 < 8) : Ok T (addB ρ s c n l k) := by
  obtain ⟨⟨h1, h2, h3, h4, h5, h6, h7, h8', h9, h10, h11⟩, d1, d2, d3, d4, d5, d6⟩ := h
  obtain ⟨a1, a2, a3, a4, a5, a6, a7, a8⟩ := hb
  obtain ⟨u0, u1, u2, u3, u4, u5, u6, u7⟩ := addB_b (ρ := ρ) (s := s) (c := c) (n := n) (l := l) (k := k)
  have e : ∀ j, j ≠ 1 → (∀ w, w < 7 → j ≠ bi (ρ 1) w) → addB ρ s c n l k j = ρ j := fun j a b => addB_o a b
  have eb : ∀ b w, b < ρ 1 → w < 7 → addB ρ s c n l k (bi b w) = ρ (bi b w) := fun b w hb hw => e _ (by simp only [bi]; omega) (fun w9 hw9 => by simp only [bi]; omega)
  refine ⟨⟨by omega, ?_, ?_, ?_, ?_, ?_, ?_, ?_, ?_, ?_, ?_⟩, ?_, ?_, ?_, ?_, ?_, ?_⟩
  any_goals (rw [e _ (by omega) (fun w hw => by simp only [bi]; omega)]; assumption)
  · intro b hb
    rw [u7] at hb
    by_cases q : b = ρ 1
    · subst q
      unfold WfB
      rw [u0, u1, u2, u3, u4, u6]
      exact ⟨a1, a2, a3, a4, a5, a6, a7, a8, by omega⟩
    · unfold WfB
      rw [eb b 0 (by omega) (by decide), eb b 1 (by omega) (by decide), eb b 2 (by omega) (by decide), eb b 3 (by omega) (by decide), eb b 4 (by omega) (by decide), eb b 6 (by omega) (by decide)]
      exact h10 b (by omega)
  · intro c9 hc
    have e2 := e 2 (by omega) (fun w hw => by simp only [bi]; omega)
    rw [e2] at hc
    rw [e (69 + c9) (by omega) (fun w hw => by simp only [bi]; omega)]
    exact h11 c9 hc
  · intro b hb
    rw [u7] at hb
    by_cases q : b = ρ 1
    · subst q
      rw [u5]; omega
    · rw [eb b 5 (by omega) (by decide)]
      exact d6 b (by omega)
theorem Ok_addC {T p : Nat} {ρ : Rw} (h : Ok T ρ) (hp1 : 1 ≤ p) (hp2 : p ≤ 50) (h5 : ρ 2 < 5) : Ok T (addC ρ p) := by
  obtain ⟨⟨h1, h2, h3, h4, h5', h6, h7, h8', h9, h10, h11⟩, d1, d2, d3, d4, d5, d6⟩ := h
  have e : ∀ j, j ≠ 2 → j ≠ 69 + ρ 2 → addC ρ p j = ρ j := fun j a b => by unfold addC; rw [uN_n a, uN_n b]
  have e2 : addC ρ p 2 = ρ 2 + 1 := by unfold addC; rw [uN_s]
  have e3 : addC ρ p (69 + ρ 2) = p := by unfold addC; rw [uN_n (by omega), uN_s]
  have eb : ∀ b w, b < 8 → w < 7 → addC ρ p (bi b w) = ρ (bi b w) := fun b w hb hw => e _ (by simp only [bi]; omega) (by simp only [bi]; omega)
  have e1 := e 1 (by omega) (by omega)
  refine ⟨⟨?_, by omega, ?_, ?_, ?_, ?_, ?_, ?_, ?_, ?_, ?_⟩, ?_, ?_, ?_, ?_, ?_, ?_⟩
  any_goals (rw [e _ (by omega) (by omega)]; assumption)
  · intro b hb
    rw [e1] at hb
    unfold WfB
    rw [eb b 0 (by omega) (by decide), eb b 1 (by omega) (by decide), eb b 2 (by omega) (by decide), eb b 3 (by omega) (by decide), eb b 4 (by omega) (by decide), eb b 6 (by omega) (by decide)]
    exact h10 b hb
  · intro c9 hc
    rw [e2] at hc
    by_cases q : c9 = ρ 2
    · subst q
      rw [e3]; exact ⟨hp1, hp2⟩
    · rw [e (69 + c9) (by omega) (by omega)]
      exact h11 c9 (by omega)
  · intro b hb
    rw [e1] at hb
    rw [eb b 5 (by omega) (by decide)]
    exact d6 b hb
theorem Ok_rtB {T b n l k : Nat} {ρ : Rw} (h : Ok T ρ) (hb8 : b < 8) (hr : okRN n l k) : Ok T (rtB ρ b n l k) := by
  obtain ⟨⟨h1, h2, h3, h4, h5', h6, h7, h8', h9, h10, h11⟩, d1, d2, d3, d4, d5, d6⟩ := h
  have e : ∀ j, j ≠ bi b 2 → j ≠ bi b 3 → j ≠ bi b 4 → rtB ρ b n l k j = ρ j := fun j a b c => rtB_o a b c
  have e1 := e 1 (by simp only [bi]; omega) (by simp only [bi]; omega) (by simp only [bi]; omega)
  refine ⟨⟨?_, ?_, ?_, ?_, ?_, ?_, ?_, ?_, ?_, ?_, ?_⟩, ?_, ?_, ?_, ?_, ?_, ?_⟩
  any_goals (rw [e _ (by simp only [bi]; omega) (by simp only [bi]; omega) (by simp only [bi]; omega)]; assumption)
  · intro c hc
    rw [e1] at hc
    unfold WfB
    rw [e (bi c 0) (by simp only [bi]; omega) (by simp only [bi]; omega) (by simp only [bi]; omega), e (bi c 1) (by simp only [bi]; omega) (by simp only [bi]; omega) (by simp only [bi]; omega), e (bi c 6) (by simp only [bi]; omega) (by simp only [bi]; omega) (by simp only [bi]; omega)]
    obtain ⟨g1, g2, g3, g4, g5, g6, g7, g8, g9⟩ := h10 c hc
    by_cases q : c = b
    · subst q
      rw [rtB_b2, rtB_b3, rtB_b4]
      exact ⟨g1, g2, g3, hr.1, hr.2.1, hr.2.2.1, hr.2.2.2.1, hr.2.2.2.2, g9⟩
    · rw [e (bi c 2) (by simp only [bi]; omega) (by simp only [bi]; omega) (by simp only [bi]; omega), e (bi c 3) (by simp only [bi]; omega) (by simp only [bi]; omega) (by simp only [bi]; omega), e (bi c 4) (by simp only [bi]; omega) (by simp only [bi]; omega) (by simp only [bi]; omega)]
      exact ⟨g1, g2, g3, g4, g5, g6, g7, g8, g9⟩
  · intro c hc
    rw [e 2 (by simp only [bi]; omega) (by simp only [bi]; omega) (by simp only [bi]; omega)] at hc
    rw [e (69 + c) (by simp only [bi]; omega) (by simp only [bi]; omega) (by simp only [bi]; omega)]
    exact h11 c hc
  · intro c hc
    rw [e1] at hc
    rw [e (bi c 5) (by simp only [bi]; omega) (by simp only [bi]; omega) (by simp only [bi]; omega)]
    exact d6 c hc

theorem Ok_btB {T b s : Nat} {ρ : Rw} (h : Ok T ρ) (hb8 : b < 8) (s1 : 10 ≤ s) (s2 : s ≤ 400) : Ok T (btB ρ b s) := by
  obtain ⟨⟨h1, h2, h3, h4, h5', h6, h7, h8', h9, h10, h11⟩, d1, d2, d3, d4, d5, d6⟩ := h
  have e : ∀ j, j ≠ bi b 0 → j ≠ bi b 1 → j ≠ bi b 5 → btB ρ b s j = ρ j := fun j a b c => btB_o a b c
  have e1 := e 1 (by simp only [bi]; omega) (by simp only [bi]; omega) (by simp only [bi]; omega)
  refine ⟨⟨?_, ?_, ?_, ?_, ?_, ?_, ?_, ?_, ?_, ?_, ?_⟩, ?_, ?_, ?_, ?_, ?_, ?_⟩
  any_goals (rw [e _ (by simp only [bi]; omega) (by simp only [bi]; omega) (by simp only [bi]; omega)]; assumption)
  · intro c hc
    rw [e1] at hc
    unfold WfB
    rw [e (bi c 2) (by simp only [bi]; omega) (by simp only [bi]; omega) (by simp only [bi]; omega), e (bi c 3) (by simp only [bi]; omega) (by simp only [bi]; omega) (by simp only [bi]; omega), e (bi c 4) (by simp only [bi]; omega) (by simp only [bi]; omega) (by simp only [bi]; omega), e (bi c 6) (by simp only [bi]; omega) (by simp only [bi]; omega) (by simp only [bi]; omega)]
    obtain ⟨g1, g2, g3, g4, g5, g6, g7, g8, g9⟩ := h10 c hc
    by_cases q : c = b
    · subst q
      rw [btB_b0, btB_b1]
      exact ⟨s1, s2, Nat.zero_le _, g4, g5, g6, g7, g8, g9⟩
    · rw [e (bi c 0) (by simp only [bi]; omega) (by simp only [bi]; omega) (by simp only [bi]; omega), e (bi c 1) (by simp only [bi]; omega) (by simp only [bi]; omega) (by simp only [bi]; omega)]
      exact ⟨g1, g2, g3, g4, g5, g6, g7, g8, g9⟩
  · intro c hc
    rw [e 2 (by simp only [bi]; omega) (by simp only [bi]; omega) (by simp only [bi]; omega)] at hc
    rw [e (69 + c) (by simp only [bi]; omega) (by simp only [bi]; omega) (by simp only [bi]; omega)]
    exact h11 c hc
  · intro c hc
    rw [e1] at hc
    by_cases q : c = b
    · subst q
      rw [btB_b5]; omega
    · rw [e (bi c 5) (by simp only [bi]; omega) (by simp only [bi]; omega) (by simp only [bi]; omega)]
      exact d6 c hc
theorem Ok_stS {T k v : Nat} {ρ : Rw} (h : Ok T ρ) (hk : okSN k v) : Ok T (stS ρ k v) := by
  obtain ⟨⟨h1, h2, h3, h4, h5', h6, h7, h8', h9, h10, h11⟩, d1, d2, d3, d4, d5, d6⟩ := h
  obtain ⟨k6, k1, k2⟩ := hk
  have e : ∀ j, j ≠ 7 + k → stS ρ k v j = ρ j := fun j a => uN_n a
  have es : stS ρ k v (7 + k) = v := uN_s
  refine ⟨⟨?_, ?_, ?_, ?_, ?_, ?_, ?_, ?_, ?_, ?_, ?_⟩, ?_, ?_, ?_, ?_, ?_, ?_⟩
  · rw [e 1 (by omega)]; exact h1
  · rw [e 2 (by omega)]; exact h2
  · match k, k6 with
    | 0, _ => exact es ▸ k2
    | 1, _ | 2, _ | 3, _ | 4, _ | 5, _ => rw [e _ (by omega)]; assumption
  · match k, k6 with
    | 1, _ => exact es ▸ k2
    | 0, _ | 2, _ | 3, _ | 4, _ | 5, _ => rw [e _ (by omega)]; assumption
  · match k, k6 with
    | 2, _ => exact es ▸ k2
    | 1, _ | 0, _ | 3, _ | 4, _ | 5, _ => rw [e _ (by omega)]; assumption
  · match k, k6 with
    | 3, _ => exact es ▸ k2
    | 1, _ | 2, _ | 0, _ | 4, _ | 5, _ => rw [e _ (by omega)]; assumption
  · match k, k6 with
    | 4, _ => exact es ▸ k1
    | 1, _ | 2, _ | 3, _ | 0, _ | 5, _ => rw [e _ (by omega)]; assumption
  · match k, k6 with
    | 4, _ => exact es ▸ k2
    | 1, _ | 2, _ | 3, _ | 0, _ | 5, _ => rw [e _ (by omega)]; assumption
  · match k, k6 with
    | 5, _ => exact es ▸ k2
    | 1, _ | 2, _ | 3, _ | 4, _ | 0, _ => rw [e _ (by omega)]; assumption
  · intro c hc
    rw [e 1 (by omega)] at hc
    have eb : ∀ w, stS ρ k v (bi c w) = ρ (bi c w) := fun w => e _ (by simp only [bi]; omega)
    unfold WfB
    rw [eb, eb, eb, eb, eb, eb]
    exact h10 c hc
  · intro c hc
    rw [e 2 (by omega)] at hc
    rw [e (69 + c) (by omega)]
    exact h11 c hc
  · rw [e 0 (by omega)]; exact d1
  · rw [e 3 (by omega)]; exact d2
  · rw [e 4 (by omega)]; exact d3
  · rw [e 5 (by omega)]; exact d4
  · rw [e 6 (by omega)]; exact d5
  · intro c hc
    rw [e 1 (by omega)] at hc
    rw [e (bi c 5) (by simp only [bi]; omega)]
    exact d6 c hc

