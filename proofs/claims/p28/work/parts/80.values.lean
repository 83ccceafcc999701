/-! what the answers are as numbers -/
theorem Ok_bd {T : Nat} {ρ : Rw} (h : Ok T ρ) (hT : T ≤ 50000) : ρ 0 ≤ 50000 ∧ ρ 3 ≤ 2000000000 ∧ ρ 4 ≤ 15000000 ∧ ρ 5 ≤ 400000 ∧ ρ 6 ≤ 400000 ∧ ∀ b, b < ρ 1 → ρ (bi b 5) ≤ 150000 := by
  obtain ⟨-, b0, b3, b4, b5, b6, b7⟩ := h
  exact ⟨by omega, by omega, by omega, by omega, by omega, fun b hb => by have := b7 b hb; omega⟩
theorem sm_bd {g : Nat → Nat} {M n : Nat} (h : ∀ b, b < n → g b ≤ M) : sm g n ≤ M * n := by
  induction n with
  | zero => exact Nat.le_refl _
  | succ n ih =>
    have h1 := ih fun b hb => h b (Nat.lt_succ_of_lt hb)
    have h2 := h n (Nat.lt_succ_self n)
    show sm g n + g n ≤ M * (n + 1)
    rw [Nat.mul_succ]
    omega
def abN (ρ : Rw) (k : Nat) : Nat := match k with
  | 0 => ρ 1
  | 1 => ρ 2
  | 2 => ρ 0
  | 3 => ρ 3
  | 4 => ρ 4
  | 5 => ρ 5
  | 6 => ρ 6
  | 7 => sm (fun b => ρ (bi b 6)) (ρ 1)
  | 8 => sm (fun b => if ρ (bi b 6) = 0 ∧ ρ (bi b 1) < ρ (bi b 2) then 1 else 0) (ρ 1)
  | 9 => if nite ρ then 1 else 0
  | _ => sm (fun b => ρ (bi b 1)) (ρ 1)
theorem abV_N {ρ : Rw} {k : Nat} : abV ρ k = nI (abN ρ k) := by
  match k with
  | 0 | 1 | 2 | 3 | 4 | 5 | 6 | 7 | 8 => rfl
  | 9 =>
    show (if nite ρ then (1 : Int32) else 0) = nI (if nite ρ then 1 else 0)
    split <;> rfl
  | _ + 10 => rfl
theorem abN_lt {T k : Nat} {ρ : Rw} (h : Ok T ρ) (hT : T ≤ 50000) : abN ρ k < 2 ^ 31 := by
  obtain ⟨c0, c3, c4, c5, c6, c7⟩ := Ok_bd h hT
  obtain ⟨w1, w2, w7, w8, w9, w10, w11, w11', w12, wB, wP⟩ := h.1
  have m7 : sm (fun b => ρ (bi b 6)) (ρ 1) ≤ 1 * ρ 1 := sm_bd fun b hb => (wB b hb).2.2.2.2.2.2.2.2
  have m8 : sm (fun b => if ρ (bi b 6) = 0 ∧ ρ (bi b 1) < ρ (bi b 2) then 1 else 0) (ρ 1) ≤ 1 * ρ 1 := sm_bd fun b hb => by
    show (if _ then 1 else 0) ≤ 1
    split <;> omega
  have m10 : sm (fun b => ρ (bi b 1)) (ρ 1) ≤ 400 * ρ 1 := sm_bd fun b hb => by have := (wB b hb).2.1; have := (wB b hb).2.2.1; omega
  match k with
  | 0 => show ρ 1 < 2 ^ 31; omega
  | 1 => show ρ 2 < 2 ^ 31; omega
  | 2 => show ρ 0 < 2 ^ 31; omega
  | 3 => show ρ 3 < 2 ^ 31; omega
  | 4 => show ρ 4 < 2 ^ 31; omega
  | 5 => show ρ 5 < 2 ^ 31; omega
  | 6 => show ρ 6 < 2 ^ 31; omega
  | 7 => show sm _ _ < 2 ^ 31; omega
  | 8 => show sm _ _ < 2 ^ 31; omega
  | 9 => show (if nite ρ then 1 else 0) < 2 ^ 31; split <;> omega
  | _ + 10 => show sm _ _ < 2 ^ 31; omega
theorem vAb_N {T k : Nat} {ρ : Rw} (h : Ok T ρ) (hT : T ≤ 50000) (hk : k ≤ 10) : vAb ρ (nI k) = lN (abN ρ k) := by
  unfold vAb
  rw [if_pos ⟨nI_le (Nat.zero_le _) (by omega), nI_le hk (by decide)⟩, nI_clamp (by omega), abV_N, nI_l (abN_lt h hT)]
theorem in_N {n b : Nat} (hn : n < 2 ^ 30) (hb : b < 2 ^ 30) : (nI 0 ≤ nI b ∧ nI b ≤ nI n - nI 1) ↔ b < n := by
  constructor
  · rintro ⟨-, h⟩
    by_cases z : n = 0
    · subst z
      have e : nI 0 - nI 1 = -1 := by decide
      rw [e, Int32.le_iff_toInt_le, nI_toInt (by omega)] at h
      have : (-1 : Int32).toInt = -1 := by decide
      omega
    · rw [pk_sub (by omega), nI_leI (by omega) (by omega)] at h
      omega
  · intro h
    exact ⟨nI_le (Nat.zero_le _) (by omega), by rw [pk_sub (by omega)]; exact nI_le (by omega) (by omega)⟩
theorem isB_N {ρ : Rw} {b : Nat} (h8 : ρ 1 ≤ 8) (hb : b < 2 ^ 30) : isB ρ (nI b) ↔ b < ρ 1 := in_N (by omega) hb
theorem isC_N {ρ : Rw} {c : Nat} (h5 : ρ 2 ≤ 5) (hc : c < 2 ^ 30) : isC ρ (nI c) ↔ c < ρ 2 := in_N (by omega) hc
theorem vBu_out {ρ : Rw} {b : Nat} {w : Int32} (h8 : ρ 1 ≤ 8) (hb : b < 2 ^ 30) (h : ρ 1 ≤ b) : vBu ρ (nI b) w = jI := if_neg fun q => by have := (isB_N h8 hb).mp q; omega
theorem vBu_neg {ρ : Rw} {w : Int32} : vBu ρ (-1) w = jI := if_neg fun q => absurd q.1 (by decide)
theorem vBu_bad {ρ : Rw} {b : Nat} {w : Int32} (h8 : ρ 1 ≤ 8) (h : b < ρ 1) (hw : ¬ (nI 0 ≤ w ∧ w ≤ nI 9)) : vBu ρ (nI b) w = jA := by
  unfold vBu
  rw [if_pos ((isB_N h8 (by omega)).mpr h), if_neg hw]
theorem vCh_out {ρ : Rw} {c : Nat} {w : Int32} (h5 : ρ 2 ≤ 5) (hc : c < 2 ^ 30) (h : ρ 2 ≤ c) : vCh ρ (nI c) w = jI := if_neg fun q => by have := (isC_N h5 hc).mp q; omega
theorem vCh_bad {ρ : Rw} {c : Nat} {w : Int32} (h5 : ρ 2 ≤ 5) (h : c < ρ 2) (hw : ¬ (nI 0 ≤ w ∧ w ≤ nI 2)) : vCh ρ (nI c) w = jA := by
  unfold vCh
  rw [if_pos ((isC_N h5 (by omega)).mpr h), if_neg hw]
theorem vSi_out {ρ : Rw} {b : Nat} {w : Int32} (h8 : ρ 1 ≤ 8) (hb : b < 2 ^ 30) (h : ρ 1 ≤ b) : vSi ρ (nI b) w = jI := if_neg fun q => by have := (isB_N h8 hb).mp q; omega
theorem vSi_bad {ρ : Rw} {b : Nat} {w : Int32} (h8 : ρ 1 ≤ 8) (h : b < ρ 1) (hw : ¬ nI 0 ≤ w) : vSi ρ (nI b) w = jA := by
  unfold vSi
  rw [if_pos ((isB_N h8 (by omega)).mpr h), if_neg hw]
theorem vSi_N {ρ : Rw} {b k : Nat} (h8 : ρ 1 ≤ 8) (h : b < ρ 1) (hk : k < 2 ^ 31) : vSi ρ (nI b) (nI k) = (sgV ρ b k).toInt64 := by
  unfold vSi
  rw [if_pos ((isB_N h8 (by omega)).mpr h), if_pos (nI_le (Nat.zero_le _) hk), nI_clamp (by omega), nI_clamp hk]
theorem vFi_out {ρ : Rw} {b : Nat} (h8 : ρ 1 ≤ 8) (hb : b < 2 ^ 30) (h : ρ 1 ≤ b) : vFi ρ (nI b) = jI := if_neg fun q => by have := (isB_N h8 hb).mp q; omega
/-- NONE, or a number -/
def eL (o : Option Nat) : Int64 := match o with
  | none => -1
  | some c => lN c
theorem enc_l {o : Option Nat} (h : ∀ c, o = some c → c < 2 ^ 31) : (enc o).toInt64 = eL o := by
  cases o with
  | none => rfl
  | some c => exact nI_l (h c rfl)
theorem eL_none {o : Option Nat} (h : ∀ c, o = some c → c < 2 ^ 31) : eL o = -1 ↔ o = none := by
  cases o with
  | none => exact ⟨fun _ => rfl, fun _ => rfl⟩
  | some c =>
    refine ⟨fun q => ?_, fun q => by cases q⟩
    have q : lN c = -1 := q
    have e := congrArg Int64.toInt q
    rw [pk_lT (by have := h c rfl; omega)] at e
    have : (-1 : Int64).toInt = -1 := by decide
    omega
def buN (ρ : Rw) (j k : Nat) : Nat := match k with
  | 0 => ρ (bi j 0)
  | 1 => ρ (bi j 1)
  | 2 => ρ (bi j 2)
  | 3 => ρ (bi j 3)
  | 4 => ρ (bi j 4)
  | 5 => ρ (bi j 5)
  | 6 => ρ (bi j 6)
  | 7 => (pvw ρ).2.2.1 j
  | _ => hrs ρ j
theorem pvw_un {ρ : Rw} {j : Nat} (hW : Wf ρ) : (pvw ρ).2.2.1 j ≤ 250 ∧ sm (pvw ρ).2.2.1 8 ≤ mved ρ 7 := by
  have hm := Wf_mved hW
  obtain ⟨l1, l2, l3, l4⟩ := LI_lay (ρ := mved ρ) hm.1.1 (mved ρ 2)
  have w7 := hm.1.2.2.1
  have e : pvw ρ = layS (mved ρ) (mved ρ 2) := rfl
  rw [e]
  refine ⟨?_, by omega⟩
  have h3 := l3 j
  by_cases hj : j < 8
  · have : ∀ n, j < n → (layS (mved ρ) (mved ρ 2)).2.2.1 j ≤ sm (layS (mved ρ) (mved ρ 2)).2.2.1 n := by
      intro n
      induction n with
      | zero => intro q; exact absurd q (Nat.not_lt_zero j)
      | succ n ih =>
        intro q
        show _ ≤ sm _ n + _
        by_cases e : j = n
        · subst e; omega
        · have := ih (by omega); omega
    have := this 8 hj
    omega
  · by_cases z : (layS (mved ρ) (mved ρ 2)).1 j = 0
    · rw [l1 j z]; exact Nat.zero_le _
    · have : ∀ k, (layS (mved ρ) k).1 j = 0 := by
        intro k
        induction k with
        | zero => rfl
        | succ k ih =>
          simp only [layS]
          split
          · exact ih
          · next b hb =>
            have := (nxt_in hb).1
            have := hm.1.1
            show va_up _ _ _ j = 0
            rw [vu_n (by omega)]
            exact ih
      exact absurd (this _) z
theorem vBu_N {T j k : Nat} {ρ : Rw} (h : Ok T ρ) (hT : T ≤ 50000) (hj : j < ρ 1) (hk : k ≤ 9) (h8 : k ≠ 8) : vBu ρ (nI j) (nI k) = lN (buN ρ j k) := by
  obtain ⟨c0, c3, c4, c5, c6, c7⟩ := Ok_bd h hT
  obtain ⟨w1, w2, w7, w8, w9, w10, w11, w11', w12, wB, wP⟩ := id h.1
  obtain ⟨g1, g2, g3, g4, g5, g6, g7, g8, g9⟩ := wB j hj
  unfold vBu
  rw [if_pos ((isB_N w1 (by omega)).mpr hj), if_pos ⟨nI_le (Nat.zero_le _) (by omega), nI_le hk (by decide)⟩, nI_clamp (by omega), nI_clamp (by omega)]
  have hc := c7 j hj
  match k, hk with
  | 0, _ => exact nI_l (by omega)
  | 1, _ => exact nI_l (by omega)
  | 2, _ => exact nI_l (by omega)
  | 3, _ => exact nI_l (by omega)
  | 4, _ => exact nI_l (by omega)
  | 5, _ => exact nI_l (by omega)
  | 6, _ => exact nI_l (by omega)
  | 7, _ => exact nI_l (by have := (pvw_un (j := j) h.1).1; omega)
  | 8, _ => exact absurd rfl h8
  | 9, _ => exact nI_l (by have := (hrs_in (ρ := ρ) (b := j)).2; omega)
theorem pvw_pl {ρ : Rw} (hW : Wf ρ) : (∀ b c, (pvw ρ).2.2.2.1 b = some c → c < ρ 2 ∧ (pvw ρ).2.2.2.2 c = some b) ∧ ∀ c b, (pvw ρ).2.2.2.2 c = some b → b < ρ 1 ∧ c < ρ 2 ∧ (pvw ρ).2.2.2.1 b = some c := by
  obtain ⟨hm, h1⟩ := Wf_mved hW
  obtain ⟨i1, i2⟩ := lay_inv hm (Nat.le_refl (mved ρ 2))
  have e2 := mved_2 hW
  refine ⟨fun b c q => ⟨?_, (i1 b c q).1⟩, fun c b q => ⟨?_, ?_, (i2 c b q).1⟩⟩
  · rw [← e2]
    exact pl_lt hm.2.1 (Nat.le_refl _) b c q
  · rw [← h1]
    exact (i2 c b q).2.1
  · rw [← e2]
    exact pl_lt hm.2.1 (Nat.le_refl _) b c (i2 c b q).1
theorem vBu_8 {j : Nat} {ρ : Rw} (hW : Wf ρ) (hj : j < ρ 1) : vBu ρ (nI j) (nI 8) = eL ((pvw ρ).2.2.2.1 j) := by
  have w1 := hW.1
  have w2 := hW.2.1
  unfold vBu
  rw [if_pos ((isB_N w1 (by omega)).mpr hj), if_pos ⟨by decide, by decide⟩, nI_clamp (by omega), nI_clamp (by decide)]
  exact enc_l fun c q => by have := ((pvw_pl hW).1 j c q).1; omega
theorem plc_le {l : List Nat} {c : Nat} : plc l c ≤ l.length := by
  induction l with
  | nil => exact Nat.le_refl _
  | cons a l ih =>
    show (if a = c then 0 else plc l c + 1) ≤ l.length + 1
    split <;> omega
def chN (ρ : Rw) (c k : Nat) : Nat := match k with
  | 0 => ρ (69 + c)
  | _ => plc (ordL ρ) c
theorem vCh_N {c k : Nat} {ρ : Rw} (hW : Wf ρ) (hc : c < ρ 2) (hk : k ≤ 1) : vCh ρ (nI c) (nI k) = lN (chN ρ c k) := by
  have w2 := hW.2.1
  have wP := hW.2.2.2.2.2.2.2.2.2.2 c hc
  unfold vCh
  rw [if_pos ((isC_N w2 (by omega)).mpr hc), if_pos ⟨nI_le (Nat.zero_le _) (by omega), nI_le (show k ≤ 2 by omega) (by decide)⟩, nI_clamp (by omega), nI_clamp (by omega)]
  match k, hk with
  | 0, _ => exact nI_l (by omega)
  | 1, _ => exact nI_l (by have := plc_le (l := ordL ρ) (c := c); rw [(ordL_ok hW).1] at this; omega)
theorem vCh_2 {c : Nat} {ρ : Rw} (hW : Wf ρ) (hc : c < ρ 2) : vCh ρ (nI c) (nI 2) = eL ((pvw ρ).2.2.2.2 c) := by
  have w1 := hW.1
  have w2 := hW.2.1
  unfold vCh
  rw [if_pos ((isC_N w2 (by omega)).mpr hc), if_pos ⟨by decide, by decide⟩, nI_clamp (by omega), nI_clamp (by decide)]
  exact enc_l fun b q => by have := ((pvw_pl hW).2 c b q).1; omega
theorem vSt_N {k : Nat} {ρ : Rw} (hW : Wf ρ) (hk : k ≤ 5) : vSt ρ (nI k) = lN (ρ (7 + k)) := by
  obtain ⟨w1, w2, w7, w8, w9, w10, w11, w11', w12, wB, wP⟩ := hW
  unfold vSt
  rw [if_pos ⟨nI_le (Nat.zero_le _) (by omega), nI_le hk (by decide)⟩, nI_clamp (by omega)]
  refine nI_l ?_
  match k, hk with
  | 0, _ => show ρ 7 < 2 ^ 31; omega
  | 1, _ => show ρ 8 < 2 ^ 31; omega
  | 2, _ => show ρ 9 < 2 ^ 31; omega
  | 3, _ => show ρ 10 < 2 ^ 31; omega
  | 4, _ => show ρ 11 < 2 ^ 31; omega
  | 5, _ => show ρ 12 < 2 ^ 31; omega
theorem lv1_up {ρ : Rw} {b k : Nat} (hk : k ≤ 3) : ρ (3 + k) ≤ lv1 b ρ (3 + k) := by
  match k, hk with
  | 1, _ => exact Nat.le_of_eq (lv1_3 (ρ := ρ) (b := b)).2.2.2.2.symm
  | 2, _ => exact lv1_5
  | 0, _ =>
    show ρ 3 ≤ lv1 b ρ 3
    unfold lv1
    split
    · split
      · unfold miss
        rw [uN_s]
        omega
      · unfold goes
        split
        · rw [uN_n (by simp only [bi]; omega), uN_n (by simp only [bi]; omega), uN_n (by simp only [bi]; omega), uN_n (by simp only [bi]; omega), uN_n (by decide)]
          exact Nat.le_refl _
        · rw [uN_n (by simp only [bi]; omega), uN_n (by simp only [bi]; omega), uN_n (by simp only [bi]; omega), uN_n (by decide)]
          exact Nat.le_refl _
    · exact Nat.le_refl _
  | 3, _ =>
    show ρ 6 ≤ lv1 b ρ 6
    unfold lv1
    split
    · split
      · exact Nat.le_of_eq (miss_o (by decide) (by decide)).symm
      · rw [goes_g]; omega
    · exact Nat.le_refl _
theorem mved_up {ρ : Rw} {k : Nat} (hk : k ≤ 3) : ρ (3 + k) ≤ mved ρ (3 + k) := by
  have h : back ρ (3 + k) = ρ (3 + k) := back_o fun b hb => by simp only [bi]; omega
  rw [← h]
  exact itB_ind (ρ := back ρ) (fun _ σ => back ρ (3 + k) ≤ σ (3 + k)) (Nat.le_refl _) fun b σ _ hI => Nat.le_trans hI (lv1_up hk)
theorem hour1_up {ρ : Rw} {k : Nat} (hk : k ≤ 3) : ρ (3 + k) ≤ hour1 ρ (3 + k) := by
  refine Nat.le_trans (mved_up hk) ?_
  match k, hk with
  | 0, _ =>
    unfold hour1
    rw [uN_n (by decide)]
    rw [show (3 + 0) = 3 from rfl, chg_all.2.2.1]
    omega
  | 1, _ =>
    unfold hour1
    rw [uN_n (by decide)]
    rw [show (3 + 1) = 4 from rfl, chg_all.2.1]
    omega
  | 2, _ => exact Nat.le_of_eq (hour1_o (by decide) (fun b hb => by simp only [bi]; omega) (by decide) (by decide)).symm
  | 3, _ => exact Nat.le_of_eq (hour1_o (by decide) (fun b hb => by simp only [bi]; omega) (by decide) (by decide)).symm
theorem runN_up {ρ : Rw} {k n : Nat} (hk : k ≤ 3) : ρ (3 + k) ≤ runN n ρ (3 + k) := by
  induction n with
  | zero => exact Nat.le_refl _
  | succ n ih => exact Nat.le_trans ih (hour1_up hk)
theorem runN_0 {ρ : Rw} {n : Nat} : runN n ρ 0 = ρ 0 + n := by
  induction n with
  | zero => rfl
  | succ n ih =>
    show hour1 (runN n ρ) 0 = _
    rw [hour1_0, ih]
    rfl
theorem runN_b {T k n : Nat} {ρ : Rw} (h : Ok T ρ) (hT : T + n ≤ 50000) (hk : k ≤ 3) : runN n ρ (3 + k) < 2 ^ 31 := by
  obtain ⟨c0, c3, c4, c5, c6, c7⟩ := Ok_bd (Ok_run h (n := n)) hT
  match k, hk with
  | 0, _ => show runN n ρ 3 < 2 ^ 31; omega
  | 1, _ => show runN n ρ 4 < 2 ^ 31; omega
  | 2, _ => show runN n ρ 5 < 2 ^ 31; omega
  | 3, _ => show runN n ρ 6 < 2 ^ 31; omega
theorem vCo_N {T m k : Nat} {ρ : Rw} (h : Ok T ρ) (hT : T ≤ 49000) (h1 : 1 ≤ m) (h2 : m ≤ 72) (hk : k ≤ 3) : vCo ρ (nI m) (nI k) = lN (runN m ρ (3 + k) - ρ (3 + k)) := by
  unfold vCo
  rw [if_pos ⟨nI_le h1 (by omega), nI_le h2 (by decide)⟩, if_pos ⟨nI_le (Nat.zero_le _) (by omega), nI_le hk (by decide)⟩, nI_clamp (by omega), nI_clamp (by omega), pk_sub (runN_up hk)]
  exact nI_l (by have := runN_b (n := m) h (by omega) hk; omega)
