/-! who is charged: what the law looks at -/
theorem hrs_mod {ρ : Rw} {b : Nat} (h : ρ (bi b 3) < 24) : (hrs ρ b + ρ 0) % 24 = ρ (bi b 3) := by
  unfold hrs
  split <;> omega
theorem unt_pw {ρ : Rw} {left b c : Nat} : unt ρ left b c ≤ ρ (69 + c) := by
  unfold unt
  split <;> split <;> omega
theorem lay_un {ρ : Rw} (k : Nat) : ∀ b, ((layS ρ k).2.2.2.1 b = none → (layS ρ k).2.2.1 b = 0) ∧ ∀ c, (layS ρ k).2.2.2.1 b = some c → (layS ρ k).2.2.1 b ≤ ρ (69 + c) := by
  induction k with
  | zero => exact fun b => ⟨fun _ => rfl, fun c h => absurd h (by simp [layS])⟩
  | succ k ih =>
    intro b
    simp only [layS]
    split
    · exact ih b
    · next b9 hb =>
      show (va_up (layS ρ k).2.2.2.1 b9 (some ((ordL ρ).getD k 0)) b = none → va_up (layS ρ k).2.2.1 b9 (unt ρ (layS ρ k).2.1 b9 ((ordL ρ).getD k 0)) b = 0) ∧ ∀ c, va_up (layS ρ k).2.2.2.1 b9 (some ((ordL ρ).getD k 0)) b = some c → va_up (layS ρ k).2.2.1 b9 (unt ρ (layS ρ k).2.1 b9 ((ordL ρ).getD k 0)) b ≤ ρ (69 + c)
      by_cases e : b = b9
      · subst e
        rw [vu_s, vu_s]
        refine ⟨(fun h => by cases h), fun c h => ?_⟩
        cases h
        exact unt_pw
      · rw [vu_n e, vu_n e]
        exact ih b
theorem mved_pw {ρ : Rw} {c : Nat} (hW : Wf ρ) : mved ρ (69 + c) = ρ (69 + c) := by
  have w1 : ρ 1 ≤ 8 := hW.1
  have e1 : back ρ 1 = ρ 1 := (Wf_back hW).2
  unfold mved
  rw [leave_o fun b hb => by simp only [tch, bi]; omega, back_o fun b hb => by simp only [bi]; omega]
theorem mved_7 {ρ : Rw} (hW : Wf ρ) : mved ρ 7 = ρ 7 := by
  have w1 : ρ 1 ≤ 8 := hW.1
  have e1 : back ρ 1 = ρ 1 := (Wf_back hW).2
  unfold mved
  rw [leave_o fun b hb => by simp only [tch, bi]; omega, back_o fun b hb => by simp only [bi]; omega]
theorem pvw_none {ρ : Rw} {b : Nat} (h : (pvw ρ).2.2.2.1 b = none) : (pvw ρ).2.2.1 b = 0 := (lay_un (ρ := mved ρ) (mved ρ 2) b).1 h
theorem pvw_pow {ρ : Rw} {b c : Nat} (hW : Wf ρ) (h : (pvw ρ).2.2.2.1 b = some c) : (pvw ρ).2.2.1 b ≤ ρ (69 + c) := by
  rw [← mved_pw hW]
  exact (lay_un (ρ := mved ρ) (mved ρ 2) b).2 c h
theorem mved_4 {ρ : Rw} : mved ρ 4 = ρ 4 := by
  have h : back ρ 4 = ρ 4 := back_o fun b hb => by simp only [bi]; omega
  show leave (back ρ) 4 = ρ 4
  rw [← h]
  exact itB_ind (ρ := back ρ) (fun _ σ => σ 4 = back ρ 4) rfl fun b σ _ hI => (lv1_3 (ρ := σ) (b := b)).2.2.2.2.trans hI
theorem next_un {ρ : Rw} : runN 1 ρ (3 + 1) - ρ (3 + 1) = sm (pvw ρ).2.2.1 (ρ 1) := by
  show hour1 ρ 4 - ρ 4 = _
  unfold hour1
  rw [uN_n (by decide), chg_all.2.1, mved_4, Nat.add_sub_cancel_left]
  rfl
theorem un_lim {ρ : Rw} (hW : Wf ρ) : sm (pvw ρ).2.2.1 (ρ 1) ≤ ρ 7 := by
  have h1 := (pvw_un (j := 0) hW).2
  have h2 := sm_le (g := (pvw ρ).2.2.1) (m := ρ 1) (n := 8) hW.1
  rw [mved_7 hW] at h1
  omega
/-! the order of the chargers -/
def ahC (ρ : Rw) (d c : Nat) : Prop := ρ (69 + c) < ρ (69 + d) ∨ (ρ (69 + d) = ρ (69 + c) ∧ d < c)
theorem ordM_pw {ρ : Rw} {m : Nat} (h : ∀ c, c < m → 1 ≤ ρ (69 + c) ∧ ρ (69 + c) ≤ 50) : (ordM ρ m).Pairwise (ahC ρ) := by
  induction m with
  | zero => exact List.Pairwise.nil
  | succ m ih =>
    obtain ⟨A, B, e1, e2, e3, e4⟩ := ord_ins (h m (Nat.lt_succ_self m)).1 (h m (Nat.lt_succ_self m)).2
    have hn := ih fun c hc => h c (by omega)
    rw [e1, List.pairwise_append] at hn
    obtain ⟨p1, p2, p3⟩ := hn
    rw [e2, List.pairwise_append]
    refine ⟨p1, List.pairwise_cons.mpr ⟨fun b hb => Or.inl (e4 b hb), p2⟩, fun a ha b hb => ?_⟩
    rcases List.mem_cons.mp hb with rfl | hb
    · have a1 := e3 a ha
      have a2 : a < b := ordM_mem (by rw [e1]; exact List.mem_append_left _ ha)
      by_cases q : ρ (69 + b) = ρ (69 + a)
      · exact Or.inr ⟨q.symm, a2⟩
      · exact Or.inl (by omega)
    · exact p3 a ha b hb
theorem plc_get {l : List Nat} {c : Nat} (h : c ∈ l) : plc l c < l.length ∧ l[plc l c]? = some c := by
  induction l with
  | nil => cases h
  | cons a l ih =>
    by_cases e : a = c
    · have q : plc (a :: l) c = 0 := if_pos e
      rw [q]
      exact ⟨Nat.succ_pos _, by rw [e]; rfl⟩
    · have q : plc (a :: l) c = plc l c + 1 := if_neg e
      rw [q]
      obtain ⟨h1, h2⟩ := ih ((List.mem_cons.mp h).resolve_left fun q => e q.symm)
      exact ⟨Nat.succ_lt_succ h1, h2⟩
theorem ahC_no {ρ : Rw} {c d : Nat} (h : ahC ρ d c) : ¬ ahC ρ c d ∧ d ≠ c := by
  unfold ahC at *
  refine ⟨fun q => ?_, fun q => ?_⟩
  · omega
  · subst q; omega
theorem plc_lt {ρ : Rw} (hW : Wf ρ) {c d : Nat} (hc : c < ρ 2) (hd : d < ρ 2) : plc (ordL ρ) d < plc (ordL ρ) c ↔ ahC ρ d c := by
  have hP := hW.2.2.2.2.2.2.2.2.2.2
  have pw : (ordL ρ).Pairwise (ahC ρ) := ordM_pw hP
  obtain ⟨c1, c2⟩ := plc_get ((ordL_ok hW).2.2 c hc)
  obtain ⟨d1, d2⟩ := plc_get ((ordL_ok hW).2.2 d hd)
  have key : ∀ a b, a < ρ 2 → b < ρ 2 → plc (ordL ρ) a < plc (ordL ρ) b → ahC ρ a b := by
    intro a b ha hb q
    obtain ⟨a1, a2⟩ := plc_get ((ordL_ok hW).2.2 a ha)
    obtain ⟨b1, b2⟩ := plc_get ((ordL_ok hW).2.2 b hb)
    have := List.pairwise_iff_getElem.mp pw _ _ a1 b1 q
    rw [(List.getElem?_eq_some_iff.mp a2).2, (List.getElem?_eq_some_iff.mp b2).2] at this
    exact this
  refine ⟨key d c hd hc, fun q => ?_⟩
  rcases Nat.lt_trichotomy (plc (ordL ρ) d) (plc (ordL ρ) c) with t | t | t
  · exact t
  · rw [t] at d2
    have := c2.symm.trans d2
    exact absurd (Option.some.inj this).symm (ahC_no q).2
  · exact absurd (key c d hc hd t) (ahC_no q).1
theorem plc_inj {ρ : Rw} (hW : Wf ρ) {c d : Nat} (hc : c < ρ 2) (hd : d < ρ 2) (h : plc (ordL ρ) d = plc (ordL ρ) c) : d = c := by
  obtain ⟨c1, c2⟩ := plc_get ((ordL_ok hW).2.2 c hc)
  obtain ⟨d1, d2⟩ := plc_get ((ordL_ok hW).2.2 d hd)
  rw [h] at d2
  exact (Option.some.inj (c2.symm.trans d2)).symm
theorem plc_b {ρ : Rw} (hW : Wf ρ) {c : Nat} (hc : c < ρ 2) : plc (ordL ρ) c < ρ 2 := by
  have := (plc_get ((ordL_ok hW).2.2 c hc)).1
  rw [(ordL_ok hW).1] at this
  exact this
/-- the chargers are taken in their order -/
theorem lay_fill {ρ : Rw} (hW : Wf ρ) {k : Nat} (hk : k ≤ ρ 2) : ∃ q, q ≤ k ∧ (q < k → nxt ρ (layS ρ k).1 = none) ∧ ∀ i, i < ρ 2 → ((layS ρ k).2.2.2.2 ((ordL ρ).getD i 0) ≠ none ↔ i < q) := by
  induction k with
  | zero => exact ⟨0, Nat.le_refl _, fun h => absurd h (Nat.lt_irrefl 0), fun i hi => ⟨fun h => absurd rfl h, fun h => absurd h (Nat.not_lt_zero i)⟩⟩
  | succ k ih =>
    obtain ⟨q, h1, h2, h3⟩ := ih (by omega)
    obtain ⟨ol, od, -⟩ := ordL_ok hW
    cases hn : nxt ρ (layS ρ k).1 with
    | none =>
      have e : layS ρ (k + 1) = layS ρ k := by simp only [layS]; rw [hn]
      rw [e]
      exact ⟨q, by omega, fun _ => hn, h3⟩
    | some b9 =>
      have hq : q = k := by
        by_cases z : q < k
        · rw [h2 z] at hn; cases hn
        · omega
      subst hq
      refine ⟨q + 1, Nat.le_refl _, fun h => absurd h (Nat.lt_irrefl _), fun i hi => ?_⟩
      have e : (layS ρ (q + 1)).2.2.2.2 = va_up (layS ρ q).2.2.2.2 ((ordL ρ).getD q 0) (some b9) := by
        simp only [layS]
        rw [hn]
      rw [e]
      by_cases z : i = q
      · subst z
        rw [vu_s]
        exact ⟨fun _ => Nat.lt_succ_self i, fun _ h => by cases h⟩
      · rw [vu_n fun h => z (nd_get od (by omega) (by omega) h), h3 i hi]
        omega
theorem fill_ah {ρ : Rw} (hW : Wf ρ) {c d : Nat} (hc : c < ρ 2) (hd : d < ρ 2) (h : ahC ρ d c) (ho : (pvw ρ).2.2.2.2 c ≠ none) : (pvw ρ).2.2.2.2 d ≠ none := by
  obtain ⟨hm, h1⟩ := Wf_mved hW
  have e2 := mved_2 hW
  obtain ⟨q, -, -, h3⟩ := lay_fill hm (Nat.le_refl (mved ρ 2))
  have eo : ordL (mved ρ) = ordL ρ := by
    show ordM (mved ρ) (mved ρ 2) = ordM ρ (ρ 2)
    rw [e2]
    exact ordM_congr fun c _ => mved_pw hW
  rw [eo, e2] at h3
  obtain ⟨c1, c2⟩ := plc_get ((ordL_ok hW).2.2 c hc)
  obtain ⟨d1, d2⟩ := plc_get ((ordL_ok hW).2.2 d hd)
  have gc : (ordL ρ).getD (plc (ordL ρ) c) 0 = c := by rw [List.getD_eq_getElem?_getD, c2]; rfl
  have gd : (ordL ρ).getD (plc (ordL ρ) d) 0 = d := by rw [List.getD_eq_getElem?_getD, d2]; rfl
  have hc3 := h3 _ (plc_b hW hc)
  have hd3 := h3 _ (plc_b hW hd)
  rw [gc] at hc3
  rw [gd] at hd3
  have e : pvw ρ = layS (mved ρ) (ρ 2) := by rw [← e2]; rfl
  rw [e] at ho ⊢
  have := (plc_lt hW hc hd).mpr h
  exact hd3.mpr (by have := hc3.mp ho; omega)
/-! marks in a number's bits -/
def mkN (f : Nat → Option Nat) : Nat → Nat
  | 0 => 0
  | i + 1 => match f i with
    | none => mkN f i
    | some c => mkN f i ||| 2 ^ c
theorem mkN_ok {f : Nat → Option Nat} {i : Nat} (h : ∀ b c, b < i → f b = some c → c < 5) : mkN f i < 2 ^ 5 ∧ ∀ c, ((mkN f i).testBit c = true ↔ ∃ b, b < i ∧ f b = some c) := by
  induction i with
  | zero => exact ⟨Nat.le_of_ble_eq_true rfl, fun c => ⟨fun q => absurd q (by simp [mkN]), fun ⟨b, hb, _⟩ => absurd hb (Nat.not_lt_zero b)⟩⟩
  | succ i ih =>
    obtain ⟨h1, h2⟩ := ih fun b c hb => h b c (by omega)
    cases e : f i with
    | none =>
      have q : mkN f (i + 1) = mkN f i := by simp only [mkN]; rw [e]
      rw [q]
      refine ⟨h1, fun c => (h2 c).trans ⟨fun ⟨b, hb, hf⟩ => ⟨b, by omega, hf⟩, fun ⟨b, hb, hf⟩ => ⟨b, ?_, hf⟩⟩⟩
      by_cases z : b = i
      · subst z; rw [e] at hf; cases hf
      · omega
    | some c9 =>
      have q : mkN f (i + 1) = mkN f i ||| 2 ^ c9 := by simp only [mkN]; rw [e]
      have hc9 := h i c9 (Nat.lt_succ_self i) e
      rw [q]
      refine ⟨Nat.or_lt_two_pow h1 (Nat.pow_lt_pow_of_lt (by decide) hc9), fun c => ?_⟩
      rw [Nat.testBit_or, Nat.testBit_two_pow, Bool.or_eq_true, h2 c, decide_eq_true_iff]
      refine ⟨fun q => ?_, fun ⟨b, hb, hf⟩ => ?_⟩
      · rcases q with ⟨b, hb, hf⟩ | rfl
        · exact ⟨b, by omega, hf⟩
        · exact ⟨i, Nat.lt_succ_self i, e⟩
      · by_cases z : b = i
        · subst z
          rw [e] at hf
          exact Or.inr (Option.some.inj hf)
        · exact Or.inl ⟨b, by omega, hf⟩
theorem bit_all : ∀ t : Fin 32, ∀ c : Fin 5, (nI t.val >>> (nI c.val &&& 31)) &&& nI 1 = (if t.val.testBit c.val = true then 1 else 0) ∧ nI t.val ||| (nI 1 <<< (nI c.val &&& 31)) = nI (t.val ||| 2 ^ c.val) ∧ nI t.val ||| nI 0 = nI t.val := by decide +kernel
theorem bit_q {t c : Nat} (ht : t < 2 ^ 5) (hc : c < 5) : (nI t >>> (nI c &&& 31)) &&& nI 1 = (if t.testBit c = true then 1 else 0) := (bit_all ⟨t, ht⟩ ⟨c, hc⟩).1
theorem bit_s {t c : Nat} (ht : t < 2 ^ 5) (hc : c < 5) : nI t ||| (nI 1 <<< (nI c &&& 31)) = nI (t ||| 2 ^ c) := (bit_all ⟨t, ht⟩ ⟨c, hc⟩).2.1
theorem bit_0 {t : Nat} (ht : t < 2 ^ 5) : nI t ||| nI 0 = nI t := (bit_all ⟨t, ht⟩ ⟨0, by decide⟩).2.2
theorem mkN_some {f : Nat → Option Nat} {i c : Nat} (h : f i = some c) : mkN f (i + 1) = mkN f i ||| 2 ^ c := by simp only [mkN]; rw [h]
theorem mkN_none {f : Nat → Option Nat} {i : Nat} (h : f i = none) : mkN f (i + 1) = mkN f i := by simp only [mkN]; rw [h]
