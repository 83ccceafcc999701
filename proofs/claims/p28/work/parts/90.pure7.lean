/-! what would be: as the law looks at it -/
theorem mv1_5 {ρ : Rw} {b : Nat} : ρ 5 ≤ mv1 b ρ 5 := by
  unfold mv1
  split
  · rw [uN_n (by simp only [bi]; omega)]
    exact Nat.le_refl _
  · exact lv1_5
theorem mvN_o {ρ : Rw} {n k w : Nat} (h : n ≤ k) (hw : w < 7) : itB mv1 n ρ (bi k w) = ρ (bi k w) := itB_o (P := fun b j => ¬ tch b j) (fun _ _ _ h => mv1_o h) fun b hb => by simp only [tch, bi]; omega
theorem mvN_0 {ρ : Rw} {n : Nat} : itB mv1 n ρ 0 = ρ 0 := itB_o (P := fun b j => ¬ tch b j) (fun _ _ _ h => mv1_o h) fun b hb => by simp only [tch, bi]; omega
theorem mvN_5 {ρ : Rw} {n : Nat} : ρ 5 ≤ itB mv1 n ρ 5 := itB_ind (ρ := ρ) (fun _ σ => ρ 5 ≤ σ 5) (Nat.le_refl _) fun b σ _ hI => Nat.le_trans hI mv1_5
theorem mv1_miss {ρ : Rw} {b : Nat} (h : msd ρ b) : mv1 b ρ 5 = ρ 5 + 1 := by
  obtain ⟨⟨h6, h3⟩, h1⟩ := h
  unfold mv1
  rw [if_neg (by omega)]
  unfold lv1
  rw [if_pos ⟨h6, h3⟩, if_pos h1]
  unfold miss
  rw [uN_n (by decide), uN_s]
theorem mv1_same {ρ : Rw} {b : Nat} (h : ¬ msd ρ b) : mv1 b ρ 5 = ρ 5 := by
  unfold mv1
  split
  · exact uN_n (by simp only [bi]; omega)
  · unfold lv1
    split
    · next q =>
      rw [if_neg fun q1 => h ⟨q, q1⟩]
      unfold goes
      split
      · rw [uN_n (by simp only [bi]; omega), uN_n (by simp only [bi]; omega), uN_n (by simp only [bi]; omega), uN_n (by simp only [bi]; omega), uN_n (by decide)]
      · rw [uN_n (by simp only [bi]; omega), uN_n (by simp only [bi]; omega), uN_n (by simp only [bi]; omega), uN_n (by decide)]
    · rfl
theorem msd_mv {ρ : Rw} {n : Nat} : msd (itB mv1 n ρ) n ↔ msd ρ n := by
  unfold msd
  rw [mvN_o (Nat.le_refl n) (by decide), mvN_o (Nat.le_refl n) (by decide), mvN_o (Nat.le_refl n) (by decide), mvN_o (Nat.le_refl n) (by decide), mvN_0]
theorem mvN_miss {ρ : Rw} {n k : Nat} (hk : k < n) (h : msd ρ k) : ρ 5 < itB mv1 n ρ 5 := by
  induction n with
  | zero => exact absurd hk (Nat.not_lt_zero k)
  | succ n ih =>
    show ρ 5 < mv1 n (itB mv1 n ρ) 5
    by_cases e : k = n
    · subst e
      rw [mv1_miss (msd_mv.mpr h)]
      have := mvN_5 (ρ := ρ) (n := k)
      omega
    · exact Nat.lt_of_lt_of_le (ih (by omega)) mv1_5
theorem mvN_same {ρ : Rw} {n : Nat} (h : ∀ k, k < n → ¬ msd ρ k) : itB mv1 n ρ 5 = ρ 5 := by
  induction n with
  | zero => rfl
  | succ n ih =>
    show mv1 n (itB mv1 n ρ) 5 = ρ 5
    rw [mv1_same fun q => h n (Nat.lt_succ_self n) (msd_mv.mp q)]
    exact ih fun k hk => h k (by omega)
theorem hour1_is5 {ρ : Rw} (hW : Wf ρ) : hour1 ρ 5 = itB mv1 (ρ 1) ρ 5 := by
  rw [← mved_mv hW]
  exact hour1_o (by decide) (fun b hb => by simp only [bi]; omega) (by decide) (by decide)
theorem ran_5 {T N : Nat} {ρ : Rw} (h : Ok T ρ) : runN N ρ 5 ≠ ρ 5 ↔ ∃ i, i < N ∧ ∃ k, k < ρ 1 ∧ msd (runN i ρ) k := by
  induction N with
  | zero => exact ⟨fun q => absurd rfl q, fun ⟨i, hi, _⟩ => absurd hi (Nat.not_lt_zero i)⟩
  | succ N ih =>
    obtain ⟨hW, hB, h1⟩ := runN_ok (n := N) h.1 h.2
    have up := runN_up (ρ := ρ) (k := 2) (n := N) (by decide)
    have u1 := hour1_up (ρ := runN N ρ) (k := 2) (by decide)
    have e : runN (N + 1) ρ 5 = hour1 (runN N ρ) 5 := rfl
    rw [e, hour1_is5 hW, h1]
    refine ⟨fun q => ?_, fun ⟨i, hi, k, hk, hm⟩ => ?_⟩
    · by_cases z : runN N ρ 5 = ρ 5
      · refine Classical.byContradiction fun no => q ?_
        rw [mvN_same fun k hk hm => no ⟨N, Nat.lt_succ_self N, k, hk, hm⟩]
        exact z
      · obtain ⟨i, hi, r⟩ := ih.mp z
        exact ⟨i, by omega, r⟩
    · by_cases z : i = N
      · subst z
        have := mvN_miss hk hm
        have up : ρ 5 ≤ runN i ρ 5 := up
        omega
      · have := ih.mpr ⟨i, by omega, k, hk, hm⟩
        have up : ρ 5 ≤ runN N ρ 5 := up
        have m := mvN_5 (ρ := runN N ρ) (n := ρ 1)
        omega
theorem runN_h {ρ : Rw} {n : Nat} : runN n (hour1 ρ) = runN (n + 1) ρ := by
  induction n with
  | zero => rfl
  | succ n ih =>
    show hour1 (runN n (hour1 ρ)) = hour1 (runN (n + 1) ρ)
    rw [ih]
theorem fm_spec {j m : Nat} {ρ : Rw} : (fmS j m ρ = -1 ∧ ∀ i, i < m → ¬ msd (runN i ρ) j) ∨ ∃ i, i < m ∧ msd (runN i ρ) j ∧ (∀ i9, i9 < i → ¬ msd (runN i9 ρ) j) ∧ fmS j m ρ = nI (ρ 0 + i) := by
  induction m generalizing ρ with
  | zero => exact Or.inl ⟨rfl, fun i hi => absurd hi (Nat.not_lt_zero i)⟩
  | succ m ih =>
    by_cases c : msd ρ j
    · exact Or.inr ⟨0, Nat.succ_pos m, c, fun i hi => absurd hi (Nat.not_lt_zero i), if_pos c⟩
    · have e : fmS j (m + 1) ρ = fmS j m (hour1 ρ) := if_neg c
      rw [e]
      rcases ih (ρ := hour1 ρ) with ⟨h1, h2⟩ | ⟨i, h1, h2, h3, h4⟩
      · refine Or.inl ⟨h1, fun i hi => ?_⟩
        cases i with
        | zero => exact c
        | succ i => rw [← runN_h]; exact h2 i (by omega)
      · refine Or.inr ⟨i + 1, by omega, by rw [← runN_h]; exact h2, fun i9 hi => ?_, ?_⟩
        · cases i9 with
          | zero => exact c
          | succ i9 => rw [← runN_h]; exact h3 i9 (by omega)
        · rw [h4, hour1_0]
          exact congrArg nI (by omega)
theorem ll_spec {ρ : Rw} {m f i : Nat} : (llS ρ m f i = -1 ∧ ∀ k, k < f → ¬ wd ρ (10 * (i + k)) m) ∨ ∃ k, k < f ∧ wd ρ (10 * (i + k)) m ∧ (∀ k9, k9 < k → ¬ wd ρ (10 * (i + k9)) m) ∧ llS ρ m f i = nI (10 * (i + k)) := by
  induction f generalizing i with
  | zero => exact Or.inl ⟨rfl, fun k hk => absurd hk (Nat.not_lt_zero k)⟩
  | succ f ih =>
    by_cases c : wd ρ (10 * i) m
    · exact Or.inr ⟨0, Nat.succ_pos f, c, fun k hk => absurd hk (Nat.not_lt_zero k), if_pos c⟩
    · have e : llS ρ m (f + 1) i = llS ρ m f (i + 1) := if_neg c
      rw [e]
      rcases ih (i := i + 1) with ⟨h1, h2⟩ | ⟨k, h1, h2, h3, h4⟩
      · refine Or.inl ⟨h1, fun k hk => ?_⟩
        cases k with
        | zero => exact c
        | succ k => rw [show i + (k + 1) = i + 1 + k by omega]; exact h2 k (by omega)
      · refine Or.inr ⟨k + 1, by omega, by rw [show i + (k + 1) = i + 1 + k by omega]; exact h2, fun k9 hk => ?_, by rw [h4, show i + (k + 1) = i + 1 + k by omega]⟩
        cases k9 with
        | zero => exact c
        | succ k9 => rw [show i + (k9 + 1) = i + 1 + k9 by omega]; exact h3 k9 (by omega)
theorem bs_spec {c : Nat → Int32} {q : Nat → Nat} {n : Nat} (h : ∀ k, k ≤ n → c k = nI (q k) ∧ q k < 2 ^ 31) : (bsS c n).1 ≤ n ∧ (bsS c n).2 = nI (q (bsS c n).1) ∧ ∀ k, k ≤ n → (k < (bsS c n).1 → q (bsS c n).1 < q k) ∧ q (bsS c n).1 ≤ q k := by
  induction n with
  | zero =>
    refine ⟨Nat.le_refl _, (h 0 (Nat.le_refl _)).1, fun k hk => ?_⟩
    have : k = 0 := by omega
    subst this
    exact ⟨fun q => absurd q (Nat.lt_irrefl 0), Nat.le_refl _⟩
  | succ n ih =>
    obtain ⟨i1, i2, i3⟩ := ih fun k hk => h k (by omega)
    obtain ⟨c1, c2⟩ := h (n + 1) (Nat.le_refl _)
    have b2 := (h (bsS c n).1 (by omega)).2
    by_cases z : q (n + 1) < q (bsS c n).1
    · have e : bsS c (n + 1) = (n + 1, c (n + 1)) := if_pos (by rw [i2, c1]; exact (nI_ltI c2 b2).mpr z)
      rw [e]
      refine ⟨Nat.le_refl _, c1, fun k hk => ?_⟩
      show (k < n + 1 → q (n + 1) < q k) ∧ q (n + 1) ≤ q k
      by_cases w : k = n + 1
      · subst w
        exact ⟨fun q => absurd q (Nat.lt_irrefl _), Nat.le_refl _⟩
      · have := (i3 k (by omega)).2
        exact ⟨fun _ => by omega, by omega⟩
    · have e : bsS c (n + 1) = bsS c n := if_neg (by rw [i2, c1]; exact fun q => z ((nI_ltI c2 b2).mp q))
      rw [e]
      refine ⟨by omega, i2, fun k hk => ?_⟩
      by_cases w : k = n + 1
      · subst w
        exact ⟨fun q => by omega, by omega⟩
      · exact i3 k (by omega)
theorem hour1_3 {ρ : Rw} {k : Nat} : hour1 ρ (bi k 3) = ρ (bi k 3) := by
  rw [hour1_o (by simp only [bi]; omega) (fun b hb => by simp only [bi]; omega) (by simp only [bi]; omega) (by simp only [bi]; omega)]
  show leave (back ρ) (bi k 3) = ρ (bi k 3)
  rw [leave_o (fun b _ => by simp only [tch, bi]; omega), back_o (fun b _ => by simp only [bi]; omega)]
theorem runN_l3 {ρ : Rw} {n k : Nat} : runN n ρ (bi k 3) = ρ (bi k 3) := by
  induction n with
  | zero => rfl
  | succ n ih => exact hour1_3.trans ih
/-- the remembered states behind an action that is taken back -/
def dl (L : List Rw) : List Rw := if L.length < 14 then L else L.tail
theorem rem_un {L : List Rw} {ρ : Rw} : (rem14 L ρ).getLast? = some ρ ∧ (rem14 L ρ).dropLast = dl L := by
  unfold rem14 dl
  split
  · exact ⟨List.getLast?_concat, List.dropLast_concat⟩
  · exact ⟨List.getLast?_concat, List.dropLast_concat⟩
theorem dl_len {L : List Rw} (h : L.length ≤ 14) : (dl L).length < 14 := by
  unfold dl
  split
  · assumption
  · rw [List.length_tail]
    omega
theorem dl_id {L : List Rw} (h : L.length < 14) : dl L = L := if_pos h
