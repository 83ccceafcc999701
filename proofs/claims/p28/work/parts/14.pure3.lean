/-! the hour keeps the ranges *)-/
def sm (g : Nat → Nat) : Nat → Nat
  | 0 => 0
  | n + 1 => sm g n + g n
theorem vu_s {α : Type} {f : Nat → α} {k : Nat} {v : α} : va_up f k v k = v := if_pos rfl
theorem vu_n {α : Type} {f : Nat → α} {k j : Nat} {v : α} (h : j ≠ k) : va_up f k v j = f j := if_neg h
theorem sm_up {g : Nat → Nat} {b u n : Nat} (h : g b = 0) : sm (va_up g b u) n = sm g n + if b < n then u else 0 := by
  induction n with
  | zero => rfl
  | succ n ih =>
    simp only [sm]
    rw [ih]
    by_cases e : n = b
    · subst e
      rw [vu_s, h, if_neg (Nat.lt_irrefl n), if_pos (Nat.lt_succ_self n)]
    · rw [vu_n e]
      by_cases h1 : b < n
      · rw [if_pos h1, if_pos (by omega)]; omega
      · rw [if_neg h1, if_neg (by omega)]; omega
theorem sm_le {g : Nat → Nat} {m n : Nat} (h : m ≤ n) : sm g m ≤ sm g n := by
  induction h with
  | refl => exact Nat.le_refl _
  | step _ ih => simp only [sm]; omega
theorem nx1_in {ρ : Rw} {lk : Nat → Nat} {n b : Nat} (h : nx1 ρ lk n = some b) : b < n ∧ lk b = 0 ∧ wnt ρ b := by
  induction n generalizing b with
  | zero => cases h
  | succ n ih =>
    simp only [nx1] at h
    split at h
    · split at h
      next h1 => cases h; exact ⟨Nat.lt_succ_self _, h1.1, h1.2⟩
      next => cases h
    · next o ho =>
      split at h
      next h1 => cases h; exact ⟨Nat.lt_succ_self _, h1.1, h1.2.1⟩
      next =>
        cases h
        obtain ⟨q1, q2⟩ := ih ho
        exact ⟨by omega, q2⟩
theorem nx2_in {ρ : Rw} {lk : Nat → Nat} {n b : Nat} (h : nx2 ρ lk n = some b) : b < n ∧ ncd ρ lk b := by
  induction n generalizing b with
  | zero => cases h
  | succ n ih =>
    simp only [nx2] at h
    split at h
    · split at h
      next h1 => cases h; exact ⟨Nat.lt_succ_self _, h1⟩
      next => cases h
    · next o ho =>
      cases h
      obtain ⟨q1, q2⟩ := ih ho
      exact ⟨by omega, q2⟩
theorem nxt_in {ρ : Rw} {lk : Nat → Nat} {b : Nat} (h : nxt ρ lk = some b) : b < ρ 1 ∧ lk b = 0 ∧ ρ (bi b 6) = 0 ∧ ρ (bi b 1) < ρ (bi b 0) := by
  unfold nxt at h
  split at h
  · next b' hb =>
    cases h
    obtain ⟨q1, q2, ⟨q3, -⟩, q4⟩ := nx1_in hb
    exact ⟨q1, q2, q3, Nat.lt_of_not_le q4⟩
  · split at h
    · obtain ⟨q1, q2, q3, q4⟩ := nx2_in h
      exact ⟨q1, q2, q3, Nat.lt_of_not_le q4⟩
    · cases h
theorem unt_le {ρ : Rw} {left b c : Nat} : unt ρ left b c ≤ left ∧ unt ρ left b c ≤ ρ (bi b 0) - ρ (bi b 1) := by
  unfold unt
  split <;> split <;> omega
/-- what the laying keeps -/
def LI (ρ : Rw) (s : LT) : Prop := (∀ b, s.1 b = 0 → s.2.2.1 b = 0) ∧ sm s.2.2.1 8 + s.2.1 ≤ ρ 7 ∧ (∀ b, s.2.2.1 b ≤ ρ (bi b 0) - ρ (bi b 1)) ∧ (∀ b, s.1 b ≤ 1)
theorem LI_lay {ρ : Rw} (h8 : ρ 1 ≤ 8) (k : Nat) : LI ρ (layS ρ k) := by
  induction k with
  | zero =>
    refine ⟨fun _ _ => rfl, ?_, fun _ => Nat.zero_le _, fun _ => Nat.zero_le _⟩
    show sm (fun _ => 0) 8 + ρ 7 ≤ ρ 7
    simp [sm]
  | succ k ih =>
    simp only [layS]
    split
    · exact ih
    · next b hb =>
      obtain ⟨i1, i2, i3, i4⟩ := ih
      obtain ⟨b1, b2, b3, b4⟩ := nxt_in hb
      have u := unt_le (ρ := ρ) (left := (layS ρ k).2.1) (b := b) (c := (ordL ρ).getD k 0)
      refine ⟨fun c hc => ?_, ?_, fun c => ?_, fun c => ?_⟩
      · dsimp only at hc ⊢
        by_cases e : c = b
        · subst e; rw [vu_s] at hc; cases hc
        · rw [vu_n e] at hc ⊢; exact i1 c hc
      · dsimp only
        rw [sm_up (i1 b b2), if_pos (by omega)]
        omega
      · show va_up _ _ _ c ≤ _
        by_cases e : c = b
        · subst e; rw [vu_s]; exact u.2
        · rw [vu_n e]; exact i3 c
      · show va_up _ _ _ c ≤ _
        by_cases e : c = b
        · subst e; rw [vu_s]; exact Nat.le_refl _
        · rw [vu_n e]; exact i4 c
def Bm (T : Nat) (ρ : Rw) : Prop := ρ 0 ≤ T ∧ ρ 3 ≤ 40000 * T + 7992 ∧ ρ 4 ≤ 300 * T ∧ ρ 5 ≤ 8 * T + 8 ∧ ρ 6 ≤ 8 * T + 8 ∧ ∀ b, b < ρ 1 → ρ (bi b 5) ≤ 3 * T + 3
theorem lv1_3 {ρ : Rw} {b : Nat} : lv1 b ρ 3 ≤ ρ 3 + ρ 10 ∧ lv1 b ρ 5 ≤ ρ 5 + 1 ∧ lv1 b ρ 6 ≤ ρ 6 + 1 ∧ lv1 b ρ (bi b 5) ≤ ρ (bi b 5) + 3 ∧ lv1 b ρ 4 = ρ 4 := by
  have w := wrn_le (ρ := ρ) (b := b)
  unfold lv1
  split
  · split
    · refine ⟨?_, ?_, ?_, ?_, ?_⟩
      · simp only [miss]; rw [uN_s]; exact Nat.le_refl _
      · simp only [miss]; rw [uN_n (by omega), uN_s]; exact Nat.le_refl _
      · rw [miss_o (by omega) (by omega)]; omega
      · rw [miss_o (by simp only [bi]; omega) (by simp only [bi]; omega)]; omega
      · rw [miss_o (by omega) (by omega)]
    · refine ⟨?_, ?_, ?_, ?_, ?_⟩
      · have : goes b ρ 3 = ρ 3 := by
          unfold goes
          split
          · rw [uN_n (by simp only [bi]; omega), uN_n (by simp only [bi]; omega), uN_n (by simp only [bi]; omega), uN_n (by simp only [bi]; omega), uN_n (by omega)]
          · rw [uN_n (by simp only [bi]; omega), uN_n (by simp only [bi]; omega), uN_n (by simp only [bi]; omega), uN_n (by omega)]
        omega
      · have : goes b ρ 5 = ρ 5 := by
          unfold goes
          split
          · rw [uN_n (by simp only [bi]; omega), uN_n (by simp only [bi]; omega), uN_n (by simp only [bi]; omega), uN_n (by simp only [bi]; omega), uN_n (by omega)]
          · rw [uN_n (by simp only [bi]; omega), uN_n (by simp only [bi]; omega), uN_n (by simp only [bi]; omega), uN_n (by omega)]
        omega
      · rw [goes_g]; omega
      · rw [goes_5]
        split <;> omega
      · exact goes_o (by simp only [tch, bi]; omega)
  · refine ⟨by omega, by omega, by omega, by omega, rfl⟩
theorem Bm_leave {ρ : Rw} {T : Nat} (hw : Wf ρ) (h : Bd T 0 ρ) : Bm T (leave ρ) := by
  have hI := itB_ind (f := lv1) (n := ρ 1) (ρ := ρ) (fun n σ => σ 0 = ρ 0 ∧ σ 10 = ρ 10 ∧ σ 3 ≤ 40000 * T + 999 * n ∧ σ 4 ≤ 300 * T ∧ σ 5 ≤ 8 * T + n ∧ σ 6 ≤ 8 * T + n ∧ ∀ b, b < ρ 1 → σ (bi b 5) ≤ if b < n then 3 * T + 3 else 3 * T) ?_ ?_
  · obtain ⟨a0, a10, a3, a4, a5, a6, a7⟩ := hI
    have h8 : ρ 1 ≤ 8 := hw.1
    refine ⟨?_, ?_, a4, ?_, ?_, fun b hb => ?_⟩
    · show itB lv1 (ρ 1) ρ 0 ≤ T
      rw [a0]; exact h.1
    · show itB lv1 (ρ 1) ρ 3 ≤ _
      omega
    · show itB lv1 (ρ 1) ρ 5 ≤ _
      omega
    · show itB lv1 (ρ 1) ρ 6 ≤ _
      omega
    · rw [(Wf_leave hw).2] at hb
      have := a7 b hb
      rw [if_pos hb] at this
      exact this
  · obtain ⟨b0, b3, b4, b5, b6, b7⟩ := h
    refine ⟨rfl, rfl, by omega, by omega, by omega, by omega, fun b hb => ?_⟩
    rw [if_neg (Nat.not_lt_zero b)]
    exact b7 b hb
  · intro b σ hb hI
    obtain ⟨a0, a10, a3, a4, a5, a6, a7⟩ := hI
    obtain ⟨c3, c5, c6, c7, c4⟩ := lv1_3 (ρ := σ) (b := b)
    have h10 : ρ 10 ≤ 999 := hw.2.2.2.2.2.1
    refine ⟨?_, ?_, by omega, by omega, by omega, by omega, fun c hc => ?_⟩
    · rw [lv1_o (by simp only [tch, bi]; omega)]; exact a0
    · rw [lv1_o (by simp only [tch, bi]; omega)]; exact a10
    · by_cases e : c = b
      · subst e
        have := a7 c hc
        rw [if_neg (Nat.lt_irrefl c)] at this
        rw [if_pos (Nat.lt_succ_self c)]
        omega
      · rw [lv1_o (by simp only [tch, bi]; omega)]
        have := a7 c hc
        by_cases e2 : c < b
        · rw [if_pos e2] at this; rw [if_pos (by omega)]; exact this
        · rw [if_neg e2] at this; rw [if_neg (by omega)]; exact this
theorem Bm_mved {ρ : Rw} {T : Nat} (hw : Wf ρ) (h : Bd T 0 ρ) : Bm T (mved ρ) := Bm_leave (Wf_back hw).1 (Bd_back h hw.1)
theorem mved_0 {ρ : Rw} : mved ρ 0 = ρ 0 := by
  show leave (back ρ) 0 = ρ 0
  rw [leave_o (fun b _ => by simp only [tch, bi]; omega), back_o (fun b _ => by simp only [bi]; omega)]
theorem chg_o {price : Nat} {g : Nat → Nat} {b j : Nat} {ρ : Rw} (h1 : j ≠ bi b 1) (h4 : j ≠ 4) (h3 : j ≠ 3) : chg price g b ρ j = ρ j := by
  unfold chg
  rw [uN_n h3, uN_n h4, uN_n h1]
theorem chg_is {price : Nat} {g : Nat → Nat} {b : Nat} {ρ : Rw} : chg price g b ρ (bi b 1) = ρ (bi b 1) + g b ∧ chg price g b ρ 4 = ρ 4 + g b ∧ chg price g b ρ 3 = ρ 3 + g b * price := by
  unfold chg
  refine ⟨?_, ?_, ?_⟩
  · rw [uN_n (by simp only [bi]; omega), uN_n (by simp only [bi]; omega), uN_s]
  · rw [uN_n (by omega), uN_s]
  · rw [uN_s]
/-- after the charging of n buses -/
theorem chg_all {price : Nat} {g : Nat → Nat} {n : Nat} {ρ : Rw} : (∀ b, itB (chg price g) n ρ (bi b 1) = ρ (bi b 1) + if b < n then g b else 0) ∧ itB (chg price g) n ρ 4 = ρ 4 + sm g n ∧ itB (chg price g) n ρ 3 = ρ 3 + sm g n * price ∧ ∀ j, (∀ b, b < n → j ≠ bi b 1) → j ≠ 4 → j ≠ 3 → itB (chg price g) n ρ j = ρ j := by
  induction n with
  | zero => exact ⟨fun b => by rw [if_neg (Nat.not_lt_zero b)]; rfl, rfl, by simp [sm, itB], fun _ _ _ _ => rfl⟩
  | succ n ih =>
    obtain ⟨i1, i4, i3, io⟩ := ih
    obtain ⟨c1, c4, c3⟩ := chg_is (price := price) (g := g) (b := n) (ρ := itB (chg price g) n ρ)
    refine ⟨fun b => ?_, ?_, ?_, fun j h1 h4 h3 => ?_⟩
    · show chg price g n (itB (chg price g) n ρ) (bi b 1) = _
      by_cases e : b = n
      · subst e
        rw [c1, i1, if_neg (Nat.lt_irrefl b), if_pos (Nat.lt_succ_self b)]; rfl
      · rw [chg_o (by simp only [bi]; omega) (by simp only [bi]; omega) (by simp only [bi]; omega), i1]
        by_cases e2 : b < n
        · rw [if_pos e2, if_pos (by omega)]
        · rw [if_neg e2, if_neg (by omega)]
    · show chg price g n (itB (chg price g) n ρ) 4 = _
      rw [c4, i4]; simp only [sm]; omega
    · show chg price g n (itB (chg price g) n ρ) 3 = _
      rw [c3, i3]; simp only [sm]; rw [Nat.add_mul]; omega
    · show chg price g n (itB (chg price g) n ρ) j = _
      rw [chg_o (h1 n (Nat.lt_succ_self n)) h4 h3, io j (fun b hb => h1 b (Nat.lt_succ_of_lt hb)) h4 h3]
theorem hour1_o {ρ : Rw} {j : Nat} (h0 : j ≠ 0) (h1 : ∀ b, b < ρ 1 → j ≠ bi b 1) (h4 : j ≠ 4) (h3 : j ≠ 3) : hour1 ρ j = mved ρ j := by
  unfold hour1
  rw [uN_n h0, chg_all.2.2.2 j h1 h4 h3]
theorem hour1_b {ρ : Rw} {b : Nat} : hour1 ρ (bi b 1) = mved ρ (bi b 1) + if b < ρ 1 then (lay (mved ρ)).2.2.1 b else 0 := by
  unfold hour1
  rw [uN_n (by simp only [bi]; omega), chg_all.1]
theorem hour1_0 {ρ : Rw} : hour1 ρ 0 = ρ 0 + 1 := by unfold hour1; rw [uN_s]
theorem Wf_hour1 {ρ : Rw} (h : Wf ρ) : Wf (hour1 ρ) ∧ hour1 ρ 1 = ρ 1 := by
  obtain ⟨hm, h1e⟩ := Wf_mved h
  have hli := LI_lay (ρ := mved ρ) hm.1 (mved ρ 2)
  obtain ⟨h1, h2, h3, h4, h5, h6, h7, h8, h9, h10, h11⟩ := hm
  have n := fun {j : Nat} (a : j ≠ 0) (b : ∀ b, b < ρ 1 → j ≠ bi b 1) (c : j ≠ 4) (d : j ≠ 3) => hour1_o (ρ := ρ) a b c d
  have e1 : hour1 ρ 1 = ρ 1 := (n (by omega) (fun b hb => by simp only [bi]; omega) (by omega) (by omega)).trans h1e
  refine ⟨⟨?_, ?_, ?_, ?_, ?_, ?_, ?_, ?_, ?_, ?_, ?_⟩, e1⟩
  any_goals (rw [n (by omega) (fun b hb => by simp only [bi]; omega) (by omega) (by omega)]; assumption)
  · intro c hc
    rw [e1, ← h1e] at hc
    obtain ⟨g1, g2, g3, g4, g5, g6, g7, g8, g9⟩ := h10 c hc
    unfold WfB
    rw [n (j := bi c 0) (by simp only [bi]; omega) (fun b hb => by simp only [bi]; omega) (by simp only [bi]; omega) (by simp only [bi]; omega), n (j := bi c 2) (by simp only [bi]; omega) (fun b hb => by simp only [bi]; omega) (by simp only [bi]; omega) (by simp only [bi]; omega), n (j := bi c 3) (by simp only [bi]; omega) (fun b hb => by simp only [bi]; omega) (by simp only [bi]; omega) (by simp only [bi]; omega), n (j := bi c 4) (by simp only [bi]; omega) (fun b hb => by simp only [bi]; omega) (by simp only [bi]; omega) (by simp only [bi]; omega), n (j := bi c 6) (by simp only [bi]; omega) (fun b hb => by simp only [bi]; omega) (by simp only [bi]; omega) (by simp only [bi]; omega), hour1_b]
    refine ⟨g1, g2, ?_, g4, g5, g6, g7, g8, g9⟩
    have := hli.2.2.1 c
    split
    · show _ + (layS (mved ρ) (mved ρ 2)).2.2.1 c ≤ _
      omega
    · omega
  · intro c hc
    rw [n (by omega) (fun b hb => by simp only [bi]; omega) (by omega) (by omega)] at hc
    have : c < 5 := by omega
    rw [n (by omega) (fun b hb => by simp only [bi]; omega) (by omega) (by omega)]
    exact h11 c hc
theorem Bd_hour1 {ρ : Rw} {T : Nat} (hw : Wf ρ) (h : Bd T 0 ρ) : Bd (T + 1) 0 (hour1 ρ) := by
  obtain ⟨hm, h1e⟩ := Wf_mved hw
  have hli := LI_lay (ρ := mved ρ) hm.1 (mved ρ 2)
  obtain ⟨b0, b3, b4, b5, b6, b7⟩ := Bm_mved hw h
  have n := fun {j : Nat} (a : j ≠ 0) (b : ∀ b, b < ρ 1 → j ≠ bi b 1) (c : j ≠ 4) (d : j ≠ 3) => hour1_o (ρ := ρ) a b c d
  have hs : sm (lay (mved ρ)).2.2.1 (ρ 1) ≤ 250 := by
    have q := sm_le (g := (lay (mved ρ)).2.2.1) (m := ρ 1) (n := 8) hw.1
    have q2 := hli.2.1
    have q3 : mved ρ 7 ≤ 250 := hm.2.2.1
    have q4 : sm (lay (mved ρ)).2.2.1 8 = sm (layS (mved ρ) (mved ρ 2)).2.2.1 8 := rfl
    omega
  have hp : pric (mved ρ) ≤ 99 := by
    unfold pric
    split
    · exact hm.2.2.2.2.1
    · exact hm.2.2.2.1
  refine ⟨?_, ?_, ?_, ?_, ?_, fun b hb => ?_⟩
  · rw [hour1_0]; have := h.1; omega
  · unfold hour1
    rw [uN_n (by omega), chg_all.2.2.1]
    have : sm (lay (mved ρ)).2.2.1 (ρ 1) * pric (mved ρ) ≤ 250 * 99 := Nat.mul_le_mul hs hp
    omega
  · unfold hour1
    rw [uN_n (by omega), chg_all.2.1]
    omega
  · rw [n (by omega) (fun b hb => by simp only [bi]; omega) (by omega) (by omega)]; omega
  · rw [n (by omega) (fun b hb => by simp only [bi]; omega) (by omega) (by omega)]; omega
  · rw [(Wf_hour1 hw).2, ← h1e] at hb
    rw [n (by simp only [bi]; omega) (fun b hb => by simp only [bi]; omega) (by simp only [bi]; omega) (by simp only [bi]; omega)]
    have := b7 b hb
    omega
theorem runN_ok {ρ : Rw} {T n : Nat} (hw : Wf ρ) (h : Bd T 0 ρ) : Wf (runN n ρ) ∧ Bd (T + n) 0 (runN n ρ) ∧ runN n ρ 1 = ρ 1 := by
  induction n with
  | zero => exact ⟨hw, h, rfl⟩
  | succ n ih => exact ⟨(Wf_hour1 ih.1).1, Bd_hour1 ih.1 ih.2.1, (Wf_hour1 ih.1).2.trans ih.2.2⟩
