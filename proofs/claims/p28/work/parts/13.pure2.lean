/-! who is charged: order of the chargers, the next bus, who gets what; the hour *)-/
def ordL (ρ : Rw) : List Nat := (List.range 50).flatMap fun i => (List.range (ρ 2)).filter fun c => ρ (69 + c) = 50 - i
abbrev isF (ρ : Rw) (b : Nat) : Prop := ρ (bi b 0) ≤ ρ (bi b 1)
abbrev wnt (ρ : Rw) (b : Nat) : Prop := low ρ b ∧ ¬ isF ρ b
abbrev ahd (ρ : Rw) (b o : Nat) : Prop := hrs ρ b < hrs ρ o ∨ (hrs ρ b = hrs ρ o ∧ (ρ (bi o 2) - ρ (bi o 1) < ρ (bi b 2) - ρ (bi b 1) ∨ (ρ (bi b 2) - ρ (bi b 1) = ρ (bi o 2) - ρ (bi o 1) ∧ b < o)))
def nx1 (ρ : Rw) (lk : Nat → Nat) : Nat → Option Nat
  | 0 => none
  | n + 1 => match nx1 ρ lk n with
    | none => if lk n = 0 ∧ wnt ρ n then some n else none
    | some o => if lk n = 0 ∧ wnt ρ n ∧ ahd ρ n o then some n else some o
/-- by night: in the depot, not full -/
abbrev ncd (ρ : Rw) (lk : Nat → Nat) (b : Nat) : Prop := lk b = 0 ∧ ρ (bi b 6) = 0 ∧ ¬ isF ρ b
def nx2 (ρ : Rw) (lk : Nat → Nat) : Nat → Option Nat
  | 0 => none
  | n + 1 => match nx2 ρ lk n with
    | none => if ncd ρ lk n then some n else none
    | some o => some o
def nxt (ρ : Rw) (lk : Nat → Nat) : Option Nat := match nx1 ρ lk (ρ 1) with
  | some b => some b
  | none => if nite ρ then nx2 ρ lk (ρ 1) else none
abbrev LT : Type := (Nat → Nat) × Nat × (Nat → Nat) × (Nat → Option Nat) × (Nat → Option Nat)
def unt (ρ : Rw) (left b c : Nat) : Nat := if left < (if ρ (bi b 0) - ρ (bi b 1) < ρ (69 + c) then ρ (bi b 0) - ρ (bi b 1) else ρ (69 + c)) then left else (if ρ (bi b 0) - ρ (bi b 1) < ρ (69 + c) then ρ (bi b 0) - ρ (bi b 1) else ρ (69 + c))
def layS (ρ : Rw) : Nat → LT
  | 0 => (fun _ => 0, ρ 7, fun _ => 0, fun _ => none, fun _ => none)
  | k + 1 => match nxt ρ (layS ρ k).1 with
    | none => layS ρ k
    | some b => (va_up (layS ρ k).1 b 1, (layS ρ k).2.1 - unt ρ (layS ρ k).2.1 b ((ordL ρ).getD k 0), va_up (layS ρ k).2.2.1 b (unt ρ (layS ρ k).2.1 b ((ordL ρ).getD k 0)), va_up (layS ρ k).2.2.2.1 b (some ((ordL ρ).getD k 0)), va_up (layS ρ k).2.2.2.2 ((ordL ρ).getD k 0) (some b))
def lay (ρ : Rw) : LT := layS ρ (ρ 2)
def chg (price : Nat) (g : Nat → Nat) (b : Nat) (ρ : Rw) : Rw := uN (uN (uN ρ (bi b 1) (ρ (bi b 1) + g b)) 4 (ρ 4 + g b)) 3 (ρ 3 + g b * price)
def pric (ρ : Rw) : Nat := if nite ρ then ρ 9 else ρ 8
/-- the hour up to who is charged with what -/
def mved (ρ : Rw) : Rw := leave (back ρ)
def hour1 (ρ : Rw) : Rw := uN (itB (chg (pric (mved ρ)) (lay (mved ρ)).2.2.1) (ρ 1) (mved ρ)) 0 (ρ 0 + 1)
def runN : Nat → Rw → Rw
  | 0, ρ => ρ
  | n + 1, ρ => hour1 (runN n ρ)
/-! what always holds *)-/
def WfB (ρ : Rw) (b : Nat) : Prop := 10 ≤ ρ (bi b 0) ∧ ρ (bi b 0) ≤ 400 ∧ ρ (bi b 1) ≤ ρ (bi b 0) ∧ 1 ≤ ρ (bi b 2) ∧ ρ (bi b 2) ≤ 400 ∧ ρ (bi b 3) < 24 ∧ ρ (bi b 4) < 24 ∧ ρ (bi b 3) ≠ ρ (bi b 4) ∧ ρ (bi b 6) ≤ 1
def Wf (ρ : Rw) : Prop := ρ 1 ≤ 8 ∧ ρ 2 ≤ 5 ∧ ρ 7 ≤ 250 ∧ ρ 8 ≤ 99 ∧ ρ 9 ≤ 99 ∧ ρ 10 ≤ 999 ∧ 1 ≤ ρ 11 ∧ ρ 11 ≤ 99 ∧ ρ 12 ≤ 23 ∧ (∀ b, b < ρ 1 → WfB ρ b) ∧ ∀ c, c < ρ 2 → 1 ≤ ρ (69 + c) ∧ ρ (69 + c) ≤ 50
/-- how far the numbers have grown: by T hours; e: what the hour that goes by has added so far -/
def Bd (T e : Nat) (ρ : Rw) : Prop := ρ 0 ≤ T ∧ ρ 3 ≤ 40000 * T + e ∧ ρ 4 ≤ 300 * T + e ∧ ρ 5 ≤ 8 * T + e ∧ ρ 6 ≤ 8 * T + e ∧ ∀ b, b < ρ 1 → ρ (bi b 5) ≤ 3 * T + e
theorem back_o {ρ : Rw} {j : Nat} (h : ∀ b, b < ρ 1 → j ≠ bi b 6) : back ρ j = ρ j := itB_o (P := fun b j => j ≠ bi b 6) (fun _ _ _ h => cb1_o h) h
theorem leave_o {ρ : Rw} {j : Nat} (h : ∀ b, b < ρ 1 → ¬ tch b j) : leave ρ j = ρ j := itB_o (P := fun b j => ¬ tch b j) (fun _ _ _ h => lv1_o h) h
theorem itB_ind {f : Nat → Rw → Rw} {n : Nat} {ρ : Rw} (I : Nat → Rw → Prop) (h0 : I 0 ρ) (hs : ∀ b σ, b < n → I b σ → I (b + 1) (f b σ)) : I n (itB f n ρ) := by
  have : ∀ m, m ≤ n → I m (itB f m ρ) := by
    intro m
    induction m with
    | zero => intro _; exact h0
    | succ m ih => intro hm; exact hs m _ (by omega) (ih (by omega))
  exact this n (Nat.le_refl n)
theorem Wf_cb1 {ρ : Rw} {b : Nat} (hb : b < ρ 1) (h : Wf ρ) : Wf (cb1 b ρ) := by
  unfold cb1
  split
  · obtain ⟨h1, h2, h3, h4, h5, h6, h7, h8, h9, h10, h11⟩ := h
    have n := fun {j : Nat} (hj : j ≠ bi b 6) => uN_n (ρ := ρ) (k := bi b 6) (v := 0) hj
    have hb8 : b < 8 := by omega
    refine ⟨?_, ?_, ?_, ?_, ?_, ?_, ?_, ?_, ?_, ?_, ?_⟩
    any_goals (rw [n (by simp only [bi]; omega)]; assumption)
    · intro c hc
      rw [n (by simp only [bi]; omega)] at hc
      obtain ⟨g1, g2, g3, g4, g5, g6, g7, g8, g9⟩ := h10 c hc
      unfold WfB
      rw [n (by simp only [bi]; omega), n (by simp only [bi]; omega), n (by simp only [bi]; omega), n (by simp only [bi]; omega), n (by simp only [bi]; omega)]
      refine ⟨g1, g2, g3, g4, g5, g6, g7, g8, ?_⟩
      unfold uN
      split
      · omega
      · exact g9
    · intro c hc
      rw [n (by simp only [bi]; omega)] at hc
      have : c < 5 := by omega
      rw [n (by simp only [bi]; omega)]
      exact h11 c hc
  · exact h
theorem lv1_1 {ρ : Rw} {b : Nat} : lv1 b ρ 1 = ρ 1 := lv1_o (by simp only [tch, bi]; omega)
theorem cb1_1 {ρ : Rw} {b : Nat} : cb1 b ρ 1 = ρ 1 := cb1_o (by simp only [bi]; omega)
theorem goes_0 {ρ : Rw} {b : Nat} : goes b ρ (bi b 0) = if ρ 11 ≤ ρ (bi b 5) + wrn ρ b then (if 10 < ρ (bi b 0) then ρ (bi b 0) - 1 else 10) else ρ (bi b 0) := by
  unfold goes
  split
  · rw [uN_n (by simp only [bi]; omega), uN_s]
  · rw [uN_n (by simp only [bi]; omega), uN_n (by simp only [bi]; omega), uN_n (by simp only [bi]; omega), uN_n (by simp only [bi]; omega)]
theorem goes_1 {ρ : Rw} {b : Nat} : goes b ρ (bi b 1) = if ρ 11 ≤ ρ (bi b 5) + wrn ρ b then (if (if 10 < ρ (bi b 0) then ρ (bi b 0) - 1 else 10) < ρ (bi b 1) - ρ (bi b 2) then (if 10 < ρ (bi b 0) then ρ (bi b 0) - 1 else 10) else ρ (bi b 1) - ρ (bi b 2)) else ρ (bi b 1) - ρ (bi b 2) := by
  unfold goes
  split
  · rw [uN_s]
  · rw [uN_s]
theorem goes_5 {ρ : Rw} {b : Nat} : goes b ρ (bi b 5) = if ρ 11 ≤ ρ (bi b 5) + wrn ρ b then ρ (bi b 5) + wrn ρ b - ρ 11 else ρ (bi b 5) + wrn ρ b := by
  unfold goes
  split
  · rw [uN_n (by simp only [bi]; omega), uN_n (by simp only [bi]; omega), uN_s]
  · rw [uN_n (by simp only [bi]; omega), uN_s]
theorem goes_6 {ρ : Rw} {b : Nat} : goes b ρ (bi b 6) = 1 := by
  unfold goes
  split
  · rw [uN_n (by simp only [bi]; omega), uN_n (by simp only [bi]; omega), uN_n (by simp only [bi]; omega), uN_s]
  · rw [uN_n (by simp only [bi]; omega), uN_n (by simp only [bi]; omega), uN_s]
theorem goes_g {ρ : Rw} {b : Nat} : goes b ρ 6 = ρ 6 + 1 := by
  unfold goes
  split
  · rw [uN_n (by simp only [bi]; omega), uN_n (by simp only [bi]; omega), uN_n (by simp only [bi]; omega), uN_n (by simp only [bi]; omega), uN_s]
  · rw [uN_n (by simp only [bi]; omega), uN_n (by simp only [bi]; omega), uN_n (by simp only [bi]; omega), uN_s]
theorem wrn_le {ρ : Rw} {b : Nat} : wrn ρ b ≤ 3 := by
  unfold wrn
  split
  · omega
  · split <;> omega
theorem Wf_lv1 {ρ : Rw} {b : Nat} (hb : b < ρ 1) (h : Wf ρ) : Wf (lv1 b ρ) := by
  obtain ⟨h1, h2, h3, h4, h5, h6, h7, h8, h9, h10, h11⟩ := h
  have hb8 : b < 8 := by omega
  have n := fun {j : Nat} (hj : ¬ tch b j) => lv1_o (ρ := ρ) (b := b) hj
  refine ⟨?_, ?_, ?_, ?_, ?_, ?_, ?_, ?_, ?_, ?_, ?_⟩
  any_goals (rw [n (by simp only [tch, bi]; omega)]; assumption)
  · intro c hc
    rw [lv1_1] at hc
    obtain ⟨g1, g2, g3, g4, g5, g6, g7, g8, g9⟩ := h10 c hc
    by_cases e : c = b
    · subst e
      unfold WfB
      rw [n (j := bi c 2) (by simp only [tch, bi]; omega), n (j := bi c 3) (by simp only [tch, bi]; omega), n (j := bi c 4) (by simp only [tch, bi]; omega)]
      unfold lv1
      split
      · split
        · rw [miss_o (by simp only [bi]; omega) (by simp only [bi]; omega), miss_o (by simp only [bi]; omega) (by simp only [bi]; omega), miss_o (by simp only [bi]; omega) (by simp only [bi]; omega)]
          exact ⟨g1, g2, g3, g4, g5, g6, g7, g8, g9⟩
        · rw [goes_0, goes_1, goes_6]
          refine ⟨?_, ?_, ?_, g4, g5, g6, g7, g8, by omega⟩
          · split
            · split <;> omega
            · exact g1
          · split
            · split <;> omega
            · exact g2
          · split
            · split <;> split <;> omega
            · omega
      · exact ⟨g1, g2, g3, g4, g5, g6, g7, g8, g9⟩
    · unfold WfB
      rw [n (j := bi c 0) (by simp only [tch, bi]; omega), n (j := bi c 1) (by simp only [tch, bi]; omega), n (j := bi c 2) (by simp only [tch, bi]; omega), n (j := bi c 3) (by simp only [tch, bi]; omega), n (j := bi c 4) (by simp only [tch, bi]; omega), n (j := bi c 6) (by simp only [tch, bi]; omega)]
      exact ⟨g1, g2, g3, g4, g5, g6, g7, g8, g9⟩
  · intro c hc
    rw [n (by simp only [tch, bi]; omega)] at hc
    rw [n (by simp only [tch, bi]; omega)]
    exact h11 c hc
theorem Wf_back {ρ : Rw} (h : Wf ρ) : Wf (back ρ) ∧ back ρ 1 = ρ 1 :=
  itB_ind (fun _ σ => Wf σ ∧ σ 1 = ρ 1) ⟨h, rfl⟩ (fun b σ hb hI => ⟨Wf_cb1 (by rw [hI.2]; exact hb) hI.1, by rw [cb1_1]; exact hI.2⟩)
theorem Wf_leave {ρ : Rw} (h : Wf ρ) : Wf (leave ρ) ∧ leave ρ 1 = ρ 1 :=
  itB_ind (fun _ σ => Wf σ ∧ σ 1 = ρ 1) ⟨h, rfl⟩ (fun b σ hb hI => ⟨Wf_lv1 (by rw [hI.2]; exact hb) hI.1, by rw [lv1_1]; exact hI.2⟩)
theorem Wf_mved {ρ : Rw} (h : Wf ρ) : Wf (mved ρ) ∧ mved ρ 1 = ρ 1 := by
  obtain ⟨a, b⟩ := Wf_back h
  obtain ⟨c, d⟩ := Wf_leave a
  exact ⟨c, d.trans b⟩
theorem Bd_back {ρ : Rw} {T e : Nat} (h : Bd T e ρ) (h8 : ρ 1 ≤ 8) : Bd T e (back ρ) := by
  obtain ⟨a, b, c, d, f, g⟩ := h
  have n := fun {j : Nat} (hj : ∀ b, b < ρ 1 → j ≠ bi b 6) => back_o (ρ := ρ) hj
  refine ⟨?_, ?_, ?_, ?_, ?_, ?_⟩
  any_goals (rw [n (fun b hb => by simp only [bi]; omega)]; assumption)
  intro q hq
  rw [n (fun b hb => by simp only [bi]; omega)] at hq ⊢
  exact g q hq
