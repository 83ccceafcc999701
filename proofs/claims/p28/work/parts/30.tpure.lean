/-! the text: what it says *)-/
def ch (S : Nat → Nat) (n p : Nat) : Nat := if p < n then S p else 1000
abbrev isD (c : Nat) : Prop := 48 ≤ c ∧ c ≤ 57
/-- some number from lo to hi begins with v -/
abbrev Beg (v lo hi : Nat) : Prop := (v = 0 ∧ lo = 0) ∨ (0 < v ∧ ((lo ≤ v ∧ v ≤ hi) ∨ (10 * v ≤ hi ∧ lo ≤ 10 * v + 9) ∨ (100 * v ≤ hi ∧ lo ≤ 100 * v + 99)))
/-- a number goes on behind v, at p -/
def nmb (S : Nat → Nat) (n lo hi : Nat) : Nat → Nat → Nat → Bool × Nat × Nat
  | 0, p, v => (false, p, v)
  | f + 1, p, v => if isD (ch S n p) then (if Beg (10 * v + (ch S n p - 48)) lo hi then nmb S n lo hi f (p + 1) (10 * v + (ch S n p - 48)) else (false, p, v)) else (decide (lo ≤ v), p, v)
/-- a comma and a number -/
def pNum (S : Nat → Nat) (n lo hi p : Nat) : Bool × Nat × Nat :=
  if ch S n p = 44 then (if isD (ch S n (p + 1)) ∧ Beg (ch S n (p + 1) - 48) lo hi then (if ch S n (p + 1) = 48 then (true, p + 2, 0) else nmb S n lo hi 3 (p + 2) (ch S n (p + 1) - 48)) else (false, p + 1, 0)) else (false, p, 0)
abbrev PS : Type := Bool × Nat × (Nat → Nat)
def pN (S : Nat → Nat) (n lo hi k : Nat) (s : PS) : PS := if s.1 = true then ((pNum S n lo hi s.2.1).1, (pNum S n lo hi s.2.1).2.1, uN s.2.2 k (pNum S n lo hi s.2.1).2.2) else s
def pC (S : Nat → Nat) (n c : Nat) (s : PS) : PS := if s.1 = true ∧ ch S n s.2.1 = c then (true, s.2.1 + 1, s.2.2) else (false, s.2)
def pW (S : Nat → Nat) (n : Nat) : List Nat → PS → PS
  | [], s => s
  | c :: w, s => pW S n w (pC S n c s)
def s0 (p : Nat) : PS := (true, p, fun _ => 0)
/-- a command at p -/
def pCmd (S : Nat → Nat) (n p : Nat) : PS :=
  if ch S n p = 98 then pN S n 0 23 4 (pN S n 0 23 3 (pN S n 1 400 2 (pN S n 0 400 1 (pN S n 10 400 0 (pW S n [98, 117, 115] (s0 p))))))
  else if ch S n p = 112 then pN S n 1 50 0 (pW S n [112, 108, 117, 103] (s0 p))
  else if ch S n p = 114 then pN S n 1 48 0 (pW S n [114, 117, 110] (s0 p))
  else if ch S n p = 115 then pN S n 0 999 1 (pN S n 0 5 0 (pW S n [115, 101, 116] (s0 p)))
  else (false, p, fun _ => 0)
def dCmd (l : Nat) (a : Nat → Nat) (ρ : Rw) : Bool × Rw :=
  if l = 98 then (if okBN (a 0) (a 1) (a 2) (a 3) (a 4) ∧ ρ 1 < 8 then (true, addB ρ (a 0) (a 1) (a 2) (a 3) (a 4)) else (false, ρ))
  else if l = 112 then (if ρ 2 < 5 then (true, addC ρ (a 0)) else (false, ρ))
  else if l = 114 then (true, runN (a 0) ρ)
  else (if okSN (a 0) (a 1) then (true, stS ρ (a 0) (a 1)) else (false, ρ))

/-- the text from p: error position, and what it leaves of a depot and of the count of what is left out -/
def pAll (S : Nat → Nat) (n : Nat) : Nat → Nat → Option Nat
  | 0, p => some p
  | f + 1, p => if (pCmd S n p).1 = true then (if (pCmd S n p).2.1 = n then none else if ch S n (pCmd S n p).2.1 = 59 then pAll S n f ((pCmd S n p).2.1 + 1) else some (pCmd S n p).2.1) else some (pCmd S n p).2.1
def one (S : Nat → Nat) (n p : Nat) (σ : Rw × Nat) : Rw × Nat := ((dCmd (ch S n p) (pCmd S n p).2.2 σ.1).2, if (dCmd (ch S n p) (pCmd S n p).2.2 σ.1).1 = true then σ.2 else σ.2 + 1)
def dAll (S : Nat → Nat) (n : Nat) : Nat → Nat → Rw × Nat → Rw × Nat
  | 0, _, σ => σ
  | f + 1, p, σ => if (pCmd S n p).2.1 = n then one S n p σ else dAll S n f ((pCmd S n p).2.1 + 1) (one S n p σ)
theorem ch_lt {S : Nat → Nat} {n p c : Nat} (h : ch S n p = c) (hc : c < 1000) : p < n := by
  unfold ch at h
  split at h
  · assumption
  · omega
theorem nmb_le {S : Nat → Nat} {n lo hi : Nat} {f p v : Nat} (h : p ≤ n) : p ≤ (nmb S n lo hi f p v).2.1 ∧ (nmb S n lo hi f p v).2.1 ≤ n := by
  induction f generalizing p v with
  | zero => exact ⟨Nat.le_refl _, h⟩
  | succ f ih =>
    unfold nmb
    split
    · rename_i q
      have hp : p < n := ch_lt (S := S) rfl (by unfold isD at q; omega)
      split
      · have := @ih (p + 1) (10 * v + (ch S n p - 48)) (by omega)
        omega
      · exact ⟨Nat.le_refl _, h⟩
    · exact ⟨Nat.le_refl _, h⟩
theorem nmb_v {S : Nat → Nat} {n lo hi : Nat} {f p v : Nat} (h9 : hi ≤ 999) (h : v ≤ hi) (h1 : (nmb S n lo hi f p v).1 = true) : lo ≤ (nmb S n lo hi f p v).2.2 ∧ (nmb S n lo hi f p v).2.2 ≤ hi := by
  induction f generalizing p v with
  | zero => exact absurd h1 (by simp [nmb])
  | succ f ih =>
    unfold nmb at h1 ⊢
    split
    · rename_i q
      rw [if_pos q] at h1
      split
      · rename_i b
        rw [if_pos b] at h1
        exact ih (by unfold Beg at b; omega) h1
      · rename_i b
        rw [if_neg b] at h1
        exact absurd h1 (by simp)
    · rename_i q
      rw [if_neg q] at h1
      exact ⟨by simpa using h1, h⟩
theorem pNum_le {S : Nat → Nat} {n lo hi p : Nat} (h : p ≤ n) : p ≤ (pNum S n lo hi p).2.1 ∧ (pNum S n lo hi p).2.1 ≤ n := by
  unfold pNum
  split
  · rename_i q
    have hp : p < n := ch_lt q (by omega)
    split
    · rename_i q2
      have hp2 : p + 1 < n := ch_lt (S := S) rfl (by have := q2.1; unfold isD at this; omega)
      split
      · exact ⟨by show p ≤ p + 2; omega, by show p + 2 ≤ n; omega⟩
      · have := nmb_le (S := S) (n := n) (lo := lo) (hi := hi) (f := 3) (p := p + 2) (v := ch S n (p + 1) - 48) (by omega)
        omega
    · exact ⟨by show p ≤ p + 1; omega, by show p + 1 ≤ n; omega⟩
  · exact ⟨Nat.le_refl _, h⟩
theorem pNum_v {S : Nat → Nat} {n lo hi p : Nat} (h9 : hi ≤ 999) (h1 : (pNum S n lo hi p).1 = true) : lo ≤ (pNum S n lo hi p).2.2 ∧ (pNum S n lo hi p).2.2 ≤ hi := by
  unfold pNum at h1 ⊢
  split
  · rename_i q
    rw [if_pos q] at h1
    split
    · rename_i q2
      rw [if_pos q2] at h1
      have hb := q2.2
      have hd := q2.1
      unfold isD at hd
      unfold Beg at hb
      split
      · exact ⟨by show lo ≤ 0; omega, Nat.zero_le _⟩
      · rename_i q3
        rw [if_neg q3] at h1
        exact nmb_v h9 (by omega) h1
    · rename_i q2
      rw [if_neg q2] at h1
      exact absurd h1 (by simp)
  · rename_i q
    rw [if_neg q] at h1
    exact absurd h1 (by simp)
theorem pN_le {S : Nat → Nat} {n lo hi k : Nat} {s : PS} (h : s.2.1 ≤ n) : s.2.1 ≤ (pN S n lo hi k s).2.1 ∧ (pN S n lo hi k s).2.1 ≤ n := by
  unfold pN
  split
  · exact pNum_le h
  · exact ⟨Nat.le_refl _, h⟩
theorem pC_le {S : Nat → Nat} {n c : Nat} {s : PS} (hc : c < 1000) (h : s.2.1 ≤ n) : s.2.1 ≤ (pC S n c s).2.1 ∧ (pC S n c s).2.1 ≤ n := by
  unfold pC
  split
  · rename_i q
    have := ch_lt q.2 hc
    exact ⟨by show s.2.1 ≤ s.2.1 + 1; omega, by show s.2.1 + 1 ≤ n; omega⟩
  · exact ⟨Nat.le_refl _, h⟩
theorem pW_le {S : Nat → Nat} {n : Nat} {w : List Nat} {s : PS} (hc : ∀ c, c ∈ w → c < 1000) (h : s.2.1 ≤ n) : s.2.1 ≤ (pW S n w s).2.1 ∧ (pW S n w s).2.1 ≤ n := by
  induction w generalizing s with
  | nil => exact ⟨Nat.le_refl _, h⟩
  | cons c w ih =>
    have a := pC_le (S := S) (s := s) (hc c (List.mem_cons_self ..)) h
    have b := ih (s := pC S n c s) (fun c hc9 => hc c (List.mem_cons_of_mem _ hc9)) a.2
    exact ⟨Nat.le_trans a.1 b.1, b.2⟩
theorem pN_t {S : Nat → Nat} {n lo hi k : Nat} {s : PS} (h : (pN S n lo hi k s).1 = true) : s.1 = true ∧ (pNum S n lo hi s.2.1).1 = true := by
  unfold pN at h
  by_cases q : s.1 = true
  · rw [if_pos q] at h
    exact ⟨q, h⟩
  · rw [if_neg q] at h
    exact absurd h q
theorem pN_k {S : Nat → Nat} {n lo hi k : Nat} {s : PS} (h9 : hi ≤ 999) (h : (pN S n lo hi k s).1 = true) : lo ≤ (pN S n lo hi k s).2.2 k ∧ (pN S n lo hi k s).2.2 k ≤ hi ∧ ∀ j, j ≠ k → (pN S n lo hi k s).2.2 j = s.2.2 j := by
  obtain ⟨a, b⟩ := pN_t h
  have v := pNum_v h9 b
  unfold pN
  rw [if_pos a]
  refine ⟨?_, ?_, fun j hj => uN_n hj⟩
  · show lo ≤ uN s.2.2 k _ k
    rw [uN_s]; exact v.1
  · show uN s.2.2 k _ k ≤ hi
    rw [uN_s]; exact v.2
theorem pCmd_le {S : Nat → Nat} {n p : Nat} (h : p ≤ n) : p ≤ (pCmd S n p).2.1 ∧ (pCmd S n p).2.1 ≤ n := by
  unfold pCmd
  split
  · have a := pW_le (S := S) (n := n) (w := [98, 117, 115]) (s := s0 p) (by decide) h
    have b := pN_le (S := S) (lo := 10) (hi := 400) (k := 0) a.2
    have c := pN_le (S := S) (lo := 0) (hi := 400) (k := 1) b.2
    have d := pN_le (S := S) (lo := 1) (hi := 400) (k := 2) c.2
    have e := pN_le (S := S) (lo := 0) (hi := 23) (k := 3) d.2
    have f := pN_le (S := S) (lo := 0) (hi := 23) (k := 4) e.2
    have a1 : p ≤ _ := a.1
    omega
  · split
    · have a := pW_le (S := S) (n := n) (w := [112, 108, 117, 103]) (s := s0 p) (by decide) h
      have b := pN_le (S := S) (lo := 1) (hi := 50) (k := 0) a.2
      have a1 : p ≤ _ := a.1
      omega
    · split
      · have a := pW_le (S := S) (n := n) (w := [114, 117, 110]) (s := s0 p) (by decide) h
        have b := pN_le (S := S) (lo := 1) (hi := 48) (k := 0) a.2
        have a1 : p ≤ _ := a.1
        omega
      · split
        · have a := pW_le (S := S) (n := n) (w := [115, 101, 116]) (s := s0 p) (by decide) h
          have b := pN_le (S := S) (lo := 0) (hi := 5) (k := 0) a.2
          have c := pN_le (S := S) (lo := 0) (hi := 999) (k := 1) b.2
          have a1 : p ≤ _ := a.1
          omega
        · exact ⟨Nat.le_refl _, h⟩

