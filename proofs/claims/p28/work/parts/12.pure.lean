/-! THE DEPOT AS A ROW OF NUMBERS: 0 hour, 1 buses, 2 chargers, 3 paid, 4 units, 5 missed, 6 gone, 7.. settings, 13 + 7 b + w bus, 69 + c power *)-/
abbrev Rw : Type := Nat → Nat
def uN (ρ : Rw) (k v : Nat) : Rw := fun j => if j = k then v else ρ j
theorem uN_s {ρ : Rw} {k v : Nat} : uN ρ k v k = v := if_pos rfl
theorem uN_n {ρ : Rw} {k v j : Nat} (h : j ≠ k) : uN ρ k v j = ρ j := if_neg h
theorem uN_c {ρ : Rw} {i k v w : Nat} (h : i ≠ k) : uN (uN ρ i v) k w = uN (uN ρ k w) i v := by
  funext j
  simp only [uN]
  by_cases h1 : j = k <;> by_cases h2 : j = i <;> simp_all
theorem uN_id {ρ : Rw} {k : Nat} : uN ρ k (ρ k) = ρ := by
  funext j
  by_cases h : j = k
  · subst h; exact uN_s
  · exact uN_n h
abbrev bi (b w : Nat) : Nat := 13 + 7 * b + w
abbrev nite (ρ : Rw) : Prop := (ρ 0 % 24 + 24 - ρ 12) % 24 < 8
def hrs (ρ : Rw) (b : Nat) : Nat := if (ρ (bi b 3) + 24 - ρ 0 % 24) % 24 = 0 then 24 else (ρ (bi b 3) + 24 - ρ 0 % 24) % 24
abbrev low (ρ : Rw) (b : Nat) : Prop := ρ (bi b 6) = 0 ∧ ρ (bi b 1) < ρ (bi b 2)
def cb1 (b : Nat) (ρ : Rw) : Rw := if ρ (bi b 4) = ρ 0 % 24 then uN ρ (bi b 6) 0 else ρ
def wrn (ρ : Rw) (b : Nat) : Nat := if 80 * ρ (bi b 0) ≤ 100 * ρ (bi b 2) then 3 else if 50 * ρ (bi b 0) ≤ 100 * ρ (bi b 2) then 2 else 1
def miss (ρ : Rw) : Rw := uN (uN ρ 5 (ρ 5 + 1)) 3 (ρ 3 + ρ 10)
def goes (b : Nat) (ρ : Rw) : Rw :=
  if ρ 11 ≤ ρ (bi b 5) + wrn ρ b then
    uN (uN (uN (uN (uN ρ 6 (ρ 6 + 1)) (bi b 6) 1) (bi b 5) (ρ (bi b 5) + wrn ρ b - ρ 11)) (bi b 0) (if 10 < ρ (bi b 0) then ρ (bi b 0) - 1 else 10)) (bi b 1) (if (if 10 < ρ (bi b 0) then ρ (bi b 0) - 1 else 10) < ρ (bi b 1) - ρ (bi b 2) then (if 10 < ρ (bi b 0) then ρ (bi b 0) - 1 else 10) else ρ (bi b 1) - ρ (bi b 2))
  else uN (uN (uN (uN ρ 6 (ρ 6 + 1)) (bi b 6) 1) (bi b 5) (ρ (bi b 5) + wrn ρ b)) (bi b 1) (ρ (bi b 1) - ρ (bi b 2))
def lv1 (b : Nat) (ρ : Rw) : Rw := if ρ (bi b 6) = 0 ∧ ρ (bi b 3) = ρ 0 % 24 then (if ρ (bi b 1) < ρ (bi b 2) then miss ρ else goes b ρ) else ρ
/-- both steps of a bus in one go -/
def mv1 (b : Nat) (ρ : Rw) : Rw := if ρ (bi b 6) = 1 ∧ ρ (bi b 4) = ρ 0 % 24 then uN ρ (bi b 6) 0 else lv1 b ρ
def itB (f : Nat → Rw → Rw) : Nat → Rw → Rw
  | 0, ρ => ρ
  | n + 1, ρ => f n (itB f n ρ)
/-- places that a step of bus b may change -/
def tch (b j : Nat) : Prop := j = 3 ∨ j = 5 ∨ j = 6 ∨ j = bi b 0 ∨ j = bi b 1 ∨ j = bi b 5 ∨ j = bi b 6
theorem miss_o {ρ : Rw} {j : Nat} (h3 : j ≠ 3) (h5 : j ≠ 5) : miss ρ j = ρ j := by
  simp only [miss]
  rw [uN_n h3, uN_n h5]
theorem goes_o {ρ : Rw} {b j : Nat} (h : ¬ tch b j) : goes b ρ j = ρ j := by
  simp only [tch, not_or] at h
  obtain ⟨-, -, h6, g0, g1, g5, g6⟩ := h
  unfold goes
  split
  · rw [uN_n g1, uN_n g0, uN_n g5, uN_n g6, uN_n h6]
  · rw [uN_n g1, uN_n g5, uN_n g6, uN_n h6]
theorem lv1_o {ρ : Rw} {b j : Nat} (h : ¬ tch b j) : lv1 b ρ j = ρ j := by
  unfold lv1
  split
  · split
    · simp only [tch, not_or] at h
      exact miss_o h.1 h.2.1
    · exact goes_o h
  · rfl
theorem cb1_o {ρ : Rw} {b j : Nat} (h : j ≠ bi b 6) : cb1 b ρ j = ρ j := by
  unfold cb1
  split
  · exact uN_n h
  · rfl
/-- a place that lv1 b neither reads nor writes -/
theorem lv1_uN {ρ : Rw} {b i v : Nat} (h : ¬ tch b i) (h0 : i ≠ 0) (h10 : i ≠ 10) (h11 : i ≠ 11) (h2 : i ≠ bi b 2) (h3 : i ≠ bi b 3) : lv1 b (uN ρ i v) = uN (lv1 b ρ) i v := by
  have ht := h
  simp only [tch, not_or] at h
  obtain ⟨k3, k5, k6, g0, g1, g5, g6⟩ := h
  have n := fun {j : Nat} (hj : i ≠ j) => uN_n (ρ := ρ) (k := i) (v := v) (Ne.symm hj)
  unfold lv1 goes miss wrn
  rw [n h0, n h10, n h11, n h2, n h3, n k3, n k5, n k6, n g0, n g1, n g5, n g6]
  repeat' split
  all_goals first | rfl | (simp only [uN_c k3, uN_c k5, uN_c k6, uN_c g0, uN_c g1, uN_c g5, uN_c g6])
theorem itB_o {f : Nat → Rw → Rw} {P : Nat → Nat → Prop} (hf : ∀ (b : Nat) (ρ : Rw) (j : Nat), P b j → f b ρ j = ρ j) {n j : Nat} {ρ : Rw} (h : ∀ b, b < n → P b j) : itB f n ρ j = ρ j := by
  induction n with
  | zero => rfl
  | succ n ih =>
    show f n (itB f n ρ) j = ρ j
    rw [hf _ _ _ (h n (Nat.lt_succ_self n)), ih fun b hb => h b (Nat.lt_succ_of_lt hb)]
def back (ρ : Rw) : Rw := itB cb1 (ρ 1) ρ
def leave (ρ : Rw) : Rw := itB lv1 (ρ 1) ρ
theorem cb_comm {n m : Nat} {ρ : Rw} (h : n ≤ m) : cb1 m (itB lv1 n ρ) = itB lv1 n (cb1 m ρ) := by
  induction n with
  | zero => rfl
  | succ n ih =>
    show cb1 m (lv1 n (itB lv1 n ρ)) = lv1 n (itB lv1 n (cb1 m ρ))
    rw [← ih (by omega)]
    have e4 : lv1 n (itB lv1 n ρ) (bi m 4) = itB lv1 n ρ (bi m 4) := lv1_o (by simp only [tch, bi]; omega)
    have e0 : lv1 n (itB lv1 n ρ) 0 = itB lv1 n ρ 0 := lv1_o (by simp only [tch, bi]; omega)
    unfold cb1
    rw [e4, e0]
    split
    · rw [lv1_uN (by simp only [tch, bi]; omega) (by simp only [bi]; omega) (by simp only [bi]; omega) (by simp only [bi]; omega) (by simp only [bi]; omega) (by simp only [bi]; omega)]
    · rfl
theorem mv_eq {n : Nat} {ρ : Rw} (h : ∀ b, b < n → ρ (bi b 3) ≠ ρ (bi b 4) ∧ ρ (bi b 6) ≤ 1) : itB mv1 n ρ = itB lv1 n (itB cb1 n ρ) := by
  induction n with
  | zero => rfl
  | succ n ih =>
    show mv1 n (itB mv1 n ρ) = lv1 n (itB lv1 n (cb1 n (itB cb1 n ρ)))
    rw [ih fun b hb => h b (by omega), ← cb_comm (Nat.le_refl n)]
    obtain ⟨h1, h2⟩ := h n (Nat.lt_succ_self n)
    have e : ∀ w, w < 7 → itB lv1 n (itB cb1 n ρ) (bi n w) = ρ (bi n w) := fun w hw => by
      rw [itB_o (P := fun b j => ¬ tch b j) (fun _ _ _ h => lv1_o h) (fun b hb => by simp only [tch, bi]; omega), itB_o (P := fun b j => j ≠ bi b 6) (fun _ _ _ h => cb1_o h) (fun b hb => by simp only [bi]; omega)]
    have e0 : itB lv1 n (itB cb1 n ρ) 0 = ρ 0 := by
      rw [itB_o (P := fun b j => ¬ tch b j) (fun _ _ _ h => lv1_o h) (fun b hb => by simp only [tch, bi]; omega), itB_o (P := fun b j => j ≠ bi b 6) (fun _ _ _ h => cb1_o h) (fun b hb => by simp only [bi]; omega)]
    have e6 := e 6 (by omega)
    have e4 := e 4 (by omega)
    have e3 := e 3 (by omega)
    generalize itB lv1 n (itB cb1 n ρ) = σ at e6 e4 e3 e0
    unfold mv1 cb1
    by_cases c4 : ρ (bi n 4) = ρ 0 % 24
    · rw [e4, e0, if_pos c4]
      by_cases c6 : ρ (bi n 6) = 1
      · rw [e6, if_pos ⟨c6, c4⟩]
        unfold lv1
        rw [if_neg]
        rintro ⟨-, q⟩
        rw [uN_n (by simp only [bi]; omega), uN_n (by simp only [bi]; omega), e3, e0] at q
        omega
      · rw [e6, if_neg (fun q => c6 q.1)]
        have : σ (bi n 6) = 0 := by omega
        have e9 : uN σ (bi n 6) 0 = σ := by rw [← this]; exact uN_id
        rw [e9]
    · rw [e4, e0, if_neg c4, if_neg (fun q => c4 q.2)]
