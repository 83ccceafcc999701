/-! what changes a depot: in words of rows *)-/
def addB (ρ : Rw) (s c n l k : Nat) : Rw := fun j => if j = 1 then ρ 1 + 1 else if j = bi (ρ 1) 0 then s else if j = bi (ρ 1) 1 then c else if j = bi (ρ 1) 2 then n else if j = bi (ρ 1) 3 then l else if j = bi (ρ 1) 4 then k else if j = bi (ρ 1) 5 then 0 else if j = bi (ρ 1) 6 then 0 else ρ j
def addC (ρ : Rw) (p : Nat) : Rw := uN (uN ρ (69 + ρ 2) p) 2 (ρ 2 + 1)
def rtB (ρ : Rw) (b n l k : Nat) : Rw := uN (uN (uN ρ (bi b 2) n) (bi b 3) l) (bi b 4) k
def btB (ρ : Rw) (b s : Nat) : Rw := uN (uN (uN ρ (bi b 0) s) (bi b 1) 0) (bi b 5) 0
def stS (ρ : Rw) (k v : Nat) : Rw := uN ρ (7 + k) v
def new0 : Rw := fun j => if j = 7 then 60 else if j = 8 then 5 else if j = 9 then 2 else if j = 10 then 100 else if j = 11 then 20 else if j = 12 then 22 else 0
abbrev okRN (n l k : Nat) : Prop := 1 ≤ n ∧ n ≤ 400 ∧ l < 24 ∧ k < 24 ∧ l ≠ k
abbrev okBN (s c n l k : Nat) : Prop := 10 ≤ s ∧ s ≤ 400 ∧ c ≤ s ∧ okRN n l k
def loS (k : Nat) : Nat := if k = 4 then 1 else 0
def hiS (k : Nat) : Nat := if k = 0 then 250 else if k = 3 then 999 else if k = 5 then 23 else 99
abbrev okSN (k v : Nat) : Prop := k < 6 ∧ loS k ≤ v ∧ v ≤ hiS k
theorem rng {x : Int32} {a b : Nat} (ha : a < 2147483648) (hb : b < 2147483648) : (nI a ≤ x ∧ x ≤ nI b) ↔ ∃ n, a ≤ n ∧ n ≤ b ∧ x = nI n := by
  constructor
  · rintro ⟨h1, h2⟩
    · obtain ⟨n, hn, rfl⟩ := nI_of2 (M := nI b) (nI_toInt hb) (by
        rw [Int32.lt_iff_toInt_lt, Int32.toInt_zero]
        have := Int32.le_iff_toInt_le.mp h1
        rw [nI_toInt ha] at this
        omega) h2
      exact ⟨n, (nI_leI ha (by omega)).mp h1, hn, rfl⟩
  · rintro ⟨n, h1, h2, rfl⟩
    exact ⟨nI_le h1 (by omega), nI_le h2 hb⟩

theorem okR_N {n l k : Int32} : okR n l k ↔ ∃ a b c : Nat, n = nI a ∧ l = nI b ∧ k = nI c ∧ okRN a b c := by
  constructor
  · rintro ⟨h1, h2, h3, h4, h5, h6, h7⟩
    obtain ⟨a, a1, a2, rfl⟩ := (rng (by decide) (by decide)).mp ⟨h1, h2⟩
    obtain ⟨b, b1, b2, rfl⟩ := (rng (by decide) (by decide)).mp ⟨h3, h4⟩
    obtain ⟨c, c1, c2, rfl⟩ := (rng (by decide) (by decide)).mp ⟨h5, h6⟩
    exact ⟨a, b, c, rfl, rfl, rfl, a1, a2, by omega, by omega, fun e => h7 (by rw [e])⟩
  · rintro ⟨a, b, c, rfl, rfl, rfl, a1, a2, b1, c1, d1⟩
    exact ⟨nI_le a1 (by omega), nI_le a2 (by decide), nI_le (Nat.zero_le _) (by omega), nI_le (show b ≤ 23 by omega) (by decide), nI_le (Nat.zero_le _) (by omega), nI_le (show c ≤ 23 by omega) (by decide), fun e => d1 ((nI_eq (by omega) (by omega)).mp e)⟩
theorem okB_N {s c n l k : Int32} : okB s c n l k ↔ ∃ a b x y z : Nat, s = nI a ∧ c = nI b ∧ n = nI x ∧ l = nI y ∧ k = nI z ∧ okBN a b x y z := by
  constructor
  · rintro ⟨h1, h2, h3, h4, h5⟩
    obtain ⟨a, a1, a2, rfl⟩ := (rng (by decide) (by decide)).mp ⟨h1, h2⟩
    obtain ⟨b, b1, b2, rfl⟩ := (rng (by decide) (by omega)).mp ⟨h3, h4⟩
    obtain ⟨x, y, z, rfl, rfl, rfl, hr⟩ := okR_N.mp h5
    exact ⟨a, b, x, y, z, rfl, rfl, rfl, rfl, rfl, a1, a2, b2, hr⟩
  · rintro ⟨a, b, x, y, z, rfl, rfl, rfl, rfl, rfl, a1, a2, b2, hr⟩
    exact ⟨nI_le a1 (by omega), nI_le a2 (by decide), nI_le (Nat.zero_le _) (by omega), nI_le b2 (by omega), okR_N.mpr ⟨x, y, z, rfl, rfl, rfl, hr⟩⟩
theorem okS_N {w v : Int32} : okS w v ↔ ∃ k x : Nat, w = nI k ∧ v = nI x ∧ okSN k x := by
  have e1 : ∀ k, leS k = nI (loS k) := fun k => by unfold leS loS; split <;> rfl
  have e2 : ∀ k, moS k = nI (hiS k) := fun k => by unfold moS hiS; split <;> (try split) <;> (try split) <;> rfl
  have h3 : ∀ k, hiS k < 1000 := fun k => by unfold hiS; split <;> (try split) <;> (try split) <;> omega
  have h4 : ∀ k, loS k < 1000 := fun k => by unfold loS; split <;> omega
  constructor
  · rintro ⟨a1, a2, a3, a4⟩
    obtain ⟨k, k1, k2, rfl⟩ := (rng (by decide) (by decide)).mp ⟨a1, a2⟩
    rw [nI_clamp (by omega), e1] at a3
    rw [nI_clamp (by omega), e2] at a4
    have := h3 k
    have := h4 k
    obtain ⟨x, x1, x2, rfl⟩ := (rng (by omega) (by omega)).mp ⟨a3, a4⟩
    exact ⟨k, x, rfl, rfl, by omega, x1, x2⟩
  · rintro ⟨k, x, rfl, rfl, a1, a2, a3⟩
    have := h3 k
    refine ⟨nI_le (Nat.zero_le _) (by omega), nI_le (show k ≤ 5 by omega) (by decide), ?_, ?_⟩
    · rw [nI_clamp (by omega), e1]; exact nI_le a2 (by omega)
    · rw [nI_clamp (by omega), e2]; exact nI_le a3 (by omega)
/-! the order of the chargers grows *)-/
def ordM (ρ : Rw) (m : Nat) : List Nat := (List.range 50).flatMap fun i => (List.range m).filter fun c => ρ (69 + c) = 50 - i
def ordP (ρ : Rw) (m j : Nat) : List Nat := (List.range j).flatMap fun i => (List.range m).filter fun c => ρ (69 + c) = 50 - i
theorem ordP_s {ρ : Rw} {m j : Nat} : ordP ρ m (j + 1) = ordP ρ m j ++ (List.range m).filter fun c => ρ (69 + c) = 50 - j := by
  unfold ordP
  rw [List.range_succ, List.flatMap_append]
  simp
theorem ordP_same {ρ : Rw} {m j : Nat} (h : ∀ i, i < j → ρ (69 + m) ≠ 50 - i) : ordP ρ (m + 1) j = ordP ρ m j := by
  induction j with
  | zero => rfl
  | succ j ih =>
    rw [ordP_s, ordP_s, ih fun i hi => h i (by omega), List.range_succ, List.filter_append]
    have := h j (Nat.lt_succ_self j)
    simp [this]
theorem ord_ins {ρ : Rw} {m : Nat} (h1 : 1 ≤ ρ (69 + m)) (h2 : ρ (69 + m) ≤ 50) : ∃ A B : List Nat, ordM ρ m = A ++ B ∧ ordM ρ (m + 1) = A ++ m :: B ∧ (∀ c, c ∈ A → ρ (69 + m) ≤ ρ (69 + c)) ∧ ∀ c, c ∈ B → ρ (69 + c) < ρ (69 + m) := by
  have key : ∀ j, 50 - ρ (69 + m) < j → j ≤ 50 → ∃ B : List Nat, ordP ρ m j = ordP ρ m (50 - ρ (69 + m) + 1) ++ B ∧ ordP ρ (m + 1) j = ordP ρ m (50 - ρ (69 + m) + 1) ++ m :: B ∧ ∀ c, c ∈ B → ρ (69 + c) < ρ (69 + m) := by
    intro j hj
    induction j with
    | zero => omega
    | succ j ih =>
      intro hj2
      by_cases e : 50 - ρ (69 + m) = j
      · refine ⟨[], by rw [e, List.append_nil], ?_, fun c hc => by cases hc⟩
        rw [e, ordP_s, ordP_s, ordP_same fun i hi => by omega, List.range_succ, List.filter_append]
        have : ρ (69 + m) = 50 - j := by omega
        simp [this]
      · obtain ⟨B, b1, b2, b3⟩ := ih (by omega) (by omega)
        refine ⟨B ++ (List.range m).filter (fun c => ρ (69 + c) = 50 - j), ?_, ?_, fun c hc => ?_⟩
        · rw [ordP_s, b1, List.append_assoc]
        · rw [ordP_s, b2, List.range_succ, List.filter_append]
          have : ¬ ρ (69 + m) = 50 - j := by omega
          simp [this]
        · rcases List.mem_append.mp hc with hc | hc
          · exact b3 c hc
          · have := (List.mem_filter.mp hc).2
            have : ρ (69 + c) = 50 - j := by simpa using this
            omega
  obtain ⟨B, b1, b2, b3⟩ := key 50 (by omega) (by omega)
  refine ⟨_, B, b1, b2, fun c hc => ?_, b3⟩
  obtain ⟨i, hi, hc⟩ := List.mem_flatMap.mp hc
  have q1 := List.mem_range.mp hi
  have q2 : ρ (69 + c) = 50 - i := by simpa using (List.mem_filter.mp hc).2
  omega
theorem ordM_len {ρ : Rw} {m : Nat} (h : ∀ c, c < m → 1 ≤ ρ (69 + c) ∧ ρ (69 + c) ≤ 50) : (ordM ρ m).length = m := by
  induction m with
  | zero => rfl
  | succ m ih =>
    obtain ⟨A, B, e1, e2, -, -⟩ := ord_ins (h m (Nat.lt_succ_self m)).1 (h m (Nat.lt_succ_self m)).2
    have := ih fun c hc => h c (by omega)
    rw [e1, List.length_append] at this
    rw [e2, List.length_append, List.length_cons]
    omega
theorem ordM_congr {ρ σ : Rw} {m : Nat} (h : ∀ c, c < m → σ (69 + c) = ρ (69 + c)) : ordM σ m = ordM ρ m := by
  unfold ordM
  refine congrArg (fun f => List.flatMap f (List.range 50)) (funext fun i => ?_)
  refine List.filter_congr fun c hc => ?_
  rw [h c (List.mem_range.mp hc)]
theorem ordM_mem {ρ : Rw} {m c : Nat} (h : c ∈ ordM ρ m) : c < m := by
  obtain ⟨i, -, hc⟩ := List.mem_flatMap.mp h
  exact List.mem_range.mp (List.mem_filter.mp hc).1

