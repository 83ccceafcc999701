/-! a depot: who is next *)-/
def enc (r : Option Nat) : Int32 := match r with
  | none => -1
  | some n => nI n
theorem enc_ne {r : Option Nat} (h : ∀ n, r = some n → n < 2147483648) : enc r = -1 ↔ r = none := by
  cases r with
  | none => exact ⟨fun _ => rfl, fun _ => rfl⟩
  | some n =>
    refine ⟨fun e => ?_, fun e => by cases e⟩
    have h1 : (nI n).toInt = -1 := by
      have e : nI n = -1 := e
      rw [e]; rfl
    rw [nI_toInt (h n rfl)] at h1
    omega
def rnk (ρ : Rw) (b : Nat) : Nat := 401 * hrs ρ b + 400 - (ρ (bi b 2) - ρ (bi b 1))
def rk (ρ : Rw) (lk : Nat → Nat) (b : Nat) : Option Nat := if lk b = 0 ∧ ρ (bi b 6) = 0 ∧ ¬ isF ρ b then (if ρ (bi b 1) < ρ (bi b 2) then some (rnk ρ b) else if nite ρ then some 1000000 else none) else none
def fil (ρ : Rw) (lk : Nat → Nat) : Nat → Option Nat × Nat
  | 0 => (none, 1000001)
  | n + 1 => match rk ρ lk n with
    | none => fil ρ lk n
    | some r => if r < (fil ρ lk n).2 then (some n, r) else fil ρ lk n
theorem hrs_in {ρ : Rw} {b : Nat} : 1 ≤ hrs ρ b ∧ hrs ρ b ≤ 24 := by
  unfold hrs
  split <;> omega
theorem rnk_le {ρ : Rw} {b : Nat} : rnk ρ b ≤ 10024 := by
  have := hrs_in (ρ := ρ) (b := b)
  unfold rnk
  omega
theorem rk_lt {ρ : Rw} {lk : Nat → Nat} {b n : Nat} (h : rk ρ lk b = some n) : n ≤ 1000000 := by
  unfold rk at h
  split at h
  · split at h
    · cases h; have := rnk_le (ρ := ρ) (b := b); omega
    · split at h
      · cases h; omega
      · cases h
  · cases h
theorem fil_nx {ρ : Rw} {lk : Nat → Nat} (hW : ∀ b, b < ρ 1 → WfB ρ b) {n : Nat} (hn : n ≤ ρ 1) :
    (∀ o, nx1 ρ lk n = some o → fil ρ lk n = (some o, rnk ρ o)) ∧ (nx1 ρ lk n = none → (nite ρ → (∀ o, nx2 ρ lk n = some o → fil ρ lk n = (some o, 1000000)) ∧ (nx2 ρ lk n = none → fil ρ lk n = (none, 1000001))) ∧ (¬ nite ρ → fil ρ lk n = (none, 1000001))) := by
  induction n with
  | zero => exact ⟨fun o h => (by cases h), fun _ => ⟨fun _ => ⟨fun o h => (by cases h), fun _ => rfl⟩, fun _ => rfl⟩⟩
  | succ n ih =>
    obtain ⟨i1, i2⟩ := ih (by omega)
    obtain ⟨b0, b0', b1, b2, b2', b3, b4, b34, b6⟩ := hW n (by omega)
    have hl := rnk_le (ρ := ρ) (b := n)
    by_cases hw : lk n = 0 ∧ wnt ρ n
    · have er : rk ρ lk n = some (rnk ρ n) := by
        unfold rk
        rw [if_pos ⟨hw.1, hw.2.1.1, hw.2.2⟩, if_pos hw.2.1.2]
      cases h1 : nx1 ρ lk n with
      | none =>
        have hf : rnk ρ n < (fil ρ lk n).2 := by
          by_cases hni : nite ρ
          · cases h2 : nx2 ρ lk n with
            | none => rw [((i2 h1).1 hni).2 h2]; omega
            | some o => rw [((i2 h1).1 hni).1 o h2]; omega
          · rw [(i2 h1).2 hni]; omega
        have e : nx1 ρ lk (n + 1) = some n := by simp only [nx1, h1]; rw [if_pos hw]
        have ef : fil ρ lk (n + 1) = (some n, rnk ρ n) := by simp only [fil, er]; rw [if_pos hf]
        rw [e, ef]
        exact ⟨fun o h => by cases h; rfl, fun h => (by cases h)⟩
      | some o =>
        have ho := nx1_in h1
        obtain ⟨c0, c0', c1, c2, c2', c3, c4, c34, c6⟩ := hW o (by omega)
        have hfo := i1 o h1
        have hlow : ρ (bi n 1) < ρ (bi n 2) := hw.2.1.2
        have hlowo : ρ (bi o 1) < ρ (bi o 2) := ho.2.2.1.2
        have hh := hrs_in (ρ := ρ) (b := n)
        have hh2 := hrs_in (ρ := ρ) (b := o)
        have key : rnk ρ n < rnk ρ o ↔ ahd ρ n o := by
          unfold rnk
          have := ho.1
          constructor <;> intro h <;> omega
        by_cases ha : ahd ρ n o
        · have e : nx1 ρ lk (n + 1) = some n := by simp only [nx1, h1]; rw [if_pos ⟨hw.1, hw.2, ha⟩]
          have ef : fil ρ lk (n + 1) = (some n, rnk ρ n) := by simp only [fil, er, hfo]; rw [if_pos (key.mpr ha)]
          rw [e, ef]
          exact ⟨fun o h => by cases h; rfl, fun h => (by cases h)⟩
        · have e : nx1 ρ lk (n + 1) = some o := by simp only [nx1, h1]; rw [if_neg fun q => ha q.2.2]
          have ef : fil ρ lk (n + 1) = (some o, rnk ρ o) := by simp only [fil, er, hfo]; rw [if_neg fun q => ha (key.mp q)]
          rw [e, ef]
          exact ⟨fun o h => by cases h; rfl, fun h => (by cases h)⟩
    · have e1 : nx1 ρ lk (n + 1) = nx1 ρ lk n := by
        simp only [nx1]
        split
        · next h => rw [if_neg hw, h]
        · next o h => rw [if_neg fun q => hw ⟨q.1, q.2.1⟩, h]
      rw [e1]
      by_cases hc : ncd ρ lk n
      · have hnl : ¬ ρ (bi n 1) < ρ (bi n 2) := fun q => hw ⟨hc.1, ⟨hc.2.1, q⟩, hc.2.2⟩
        by_cases hni : nite ρ
        · have er : rk ρ lk n = some 1000000 := by
            unfold rk
            rw [if_pos hc, if_neg hnl, if_pos hni]
          refine ⟨fun o h => ?_, fun h => ⟨fun _ => ⟨fun o h2 => ?_, fun h2 => ?_⟩, fun q => absurd hni q⟩⟩
          · simp only [fil, er, i1 o h]
            rw [if_neg (by have := rnk_le (ρ := ρ) (b := o); omega)]
          · simp only [nx2] at h2
            split at h2
            · next h3 =>
              rw [if_pos hc] at h2
              cases h2
              simp only [fil, er, ((i2 h).1 hni).2 h3]
              rfl
            · next o' h3 =>
              cases h2
              simp only [fil, er, ((i2 h).1 hni).1 o h3]
              rfl
          · simp only [nx2] at h2
            split at h2
            · rw [if_pos hc] at h2; cases h2
            · cases h2
        · have er : rk ρ lk n = none := by
            unfold rk
            rw [if_pos hc, if_neg hnl, if_neg hni]
          have ef : fil ρ lk (n + 1) = fil ρ lk n := by simp only [fil, er]
          rw [ef]
          exact ⟨i1, fun h => ⟨fun q => absurd q hni, (i2 h).2⟩⟩
      · have er : rk ρ lk n = none := by
          unfold rk
          rw [if_neg hc]
        have ef : fil ρ lk (n + 1) = fil ρ lk n := by simp only [fil, er]
        have e2 : nx2 ρ lk (n + 1) = nx2 ρ lk n := by
          simp only [nx2]
          split
          · next h => rw [if_neg hc, h]
          · next o h => rw [h]
        rw [ef, e2]
        exact ⟨i1, i2⟩
theorem fil_nxt {ρ : Rw} {lk : Nat → Nat} (hW : ∀ b, b < ρ 1 → WfB ρ b) : (fil ρ lk (ρ 1)).1 = nxt ρ lk := by
  obtain ⟨h1, h2⟩ := fil_nx (lk := lk) hW (Nat.le_refl (ρ 1))
  unfold nxt
  cases e : nx1 ρ lk (ρ 1) with
  | some o => rw [h1 o e]
  | none =>
    by_cases hni : nite ρ
    · dsimp only
      rw [if_pos hni]
      cases e2 : nx2 ρ lk (ρ 1) with
      | some o => rw [((h2 e).1 hni).1 o e2]
      | none => rw [((h2 e).1 hni).2 e2]
    · dsimp only
      rw [if_neg hni, (h2 e).2 hni]
theorem fil_le {ρ : Rw} {lk : Nat → Nat} {n : Nat} : (fil ρ lk n).2 ≤ 1000001 ∧ ∀ o, (fil ρ lk n).1 = some o → o < n := by
  induction n with
  | zero => exact ⟨Nat.le_refl _, fun o h => by cases h⟩
  | succ n ih =>
    simp only [fil]
    split
    · exact ⟨ih.1, fun o h => Nat.lt_succ_of_lt (ih.2 o h)⟩
    · next r hr =>
      split
      · exact ⟨by have := rk_lt hr; show r ≤ _; omega, fun o h => by cases h; exact Nat.lt_succ_self _⟩
      · exact ⟨ih.1, fun o h => Nat.lt_succ_of_lt (ih.2 o h)⟩
theorem VaD_same {g f : Nat → Nat → Int32} {d : Nat} {ρ : Rw} (hV : VaD g d ρ) (h0 : f d = g d) (h2 : f (d + 2) = g (d + 2)) (h3 : f (d + 3) = g (d + 3)) (h4 : f (d + 4) = g (d + 4)) (hb : ∀ b, b < ρ 1 → ∀ w, w < 7 → f (d + 5 + b) w = g (d + 5 + b) w) : VaD f d ρ := by
  obtain ⟨v4, v5, v6, v7, v8, v9, v10, vs, vb, vp⟩ := hV
  refine ⟨by rw [h0]; exact v4, by rw [h0]; exact v5, by rw [h0]; exact v6, by rw [h0]; exact v7, by rw [h0]; exact v8, by rw [h0]; exact v9, by rw [h0]; exact v10, fun k hk => by rw [h4]; exact vs k hk, fun b hb9 w hw => by rw [hb b hb9 w hw]; exact vb b hb9 w hw, fun c hc => by rw [h2, h3]; exact vp c hc⟩

theorem s_rankOf {G : GT} {C : AH} {Q : QT} {X : XT} {d : Nat} {ρ : Rw} {j : Nat} {z : Int32} (hO : GO G) (hS : SkD C d) (hV : VaD (gI C) d ρ) (hW : Wf ρ) (hb : ρ 0 < 1000000) (hj : j < ρ 1) (hz : z = if nite ρ then 1 else 0) (hq : Q (some (.int (enc (rk ρ (fun _ => 0) j)))) C) : Mt G M_X1_rankOf [.ref d, .ref (d + 5 + j), .int z] C Q X := by
  refine Mt_of (by decide) (Nat.le_of_ble_eq_true rfl) ?_
  obtain ⟨s0, s1, s2, s3, v4, v5, v6, v7, v8, v9, v10⟩ := SkD_f hS hV
  obtain ⟨hK, -, -, -, -, k1, n1, k2, n2, k3, n3, k4, n4, hbus⟩ := id hS
  obtain ⟨w1, w2, w7, w8, w9, w10, w11, w11', w12, wB, wP⟩ := id hW
  have vb := hV.2.2.2.2.2.2.2.2.1
  obtain ⟨b0, b0', b1, b2, b2', b3, b4, b34, b6⟩ := wB j hj
  have kb := (hbus j (by omega)).2
  have hh := hrs_in (ρ := ρ) (b := j)
  unfold rk at hq
  dsimp only at hq
  refine x_aload_n dX1_rankOf_0 rfl ?_
  refine x_get 2 hO dX1_rankOf_1 f_X1_71 (by assumption) ⟨by decide, by decide⟩ (v := .int (nI (ρ (bi j 6)))) (congrArg Value.int (vb j hj 6 (by decide))) ?_
  refine x_if_ne (tgt := 18) dX1_rankOf_4 (by decide) (fun c4 => ?_) (fun c4 => ?_)
  · simp (disch := omega) only [nI_z] at c4
    refine x_iconst (v := (-1)) dX1_rankOf_18 (by decide) ?_
    refine x_iret dX1_rankOf_19 rfl rfl ?_
    rw [if_neg (by unfold isF; omega)] at hq
    exact hq
  · simp (disch := omega) only [nI_z] at c4
    refine x_aload_n dX1_rankOf_7 rfl ?_
    refine x_get 2 hO dX1_rankOf_8 f_X1_79 (by assumption) ⟨by decide, by decide⟩ (v := .int (nI (ρ (bi j 1)))) (congrArg Value.int (vb j hj 1 (by decide))) ?_
    refine x_aload_n dX1_rankOf_11 rfl ?_
    refine x_get 2 hO dX1_rankOf_12 f_X1_189 (by assumption) ⟨by decide, by decide⟩ (v := .int (nI (ρ (bi j 0)))) (congrArg Value.int (vb j hj 0 (by decide))) ?_
    refine x_icmp_lt (tgt := 20) dX1_rankOf_15 (by decide) (fun c15 => ?_) (fun c15 => ?_)
    · simp (disch := omega) only [nI_ltI] at c15
      refine x_aload_n dX1_rankOf_20 rfl ?_
      refine x_get 2 hO dX1_rankOf_21 f_X1_79 (by assumption) ⟨by decide, by decide⟩ (v := .int (nI (ρ (bi j 1)))) (congrArg Value.int (vb j hj 1 (by decide))) ?_
      refine x_aload_n dX1_rankOf_24 rfl ?_
      refine x_get 2 hO dX1_rankOf_25 f_X1_195 (by assumption) ⟨by decide, by decide⟩ (v := .int (nI (ρ (bi j 2)))) (congrArg Value.int (vb j hj 2 (by decide))) ?_
      refine x_icmp_ge (tgt := 57) dX1_rankOf_28 (by decide) (fun c28 => ?_) (fun c28 => ?_)
      · simp (disch := omega) only [nI_leI] at c28
        refine x_iload_n dX1_rankOf_57 rfl ?_
        refine x_if_eq (tgt := 66) dX1_rankOf_58 (by decide) (fun c58 => ?_) (fun c58 => ?_)
        · skip
          refine x_iconst (v := (-1)) dX1_rankOf_66 (by decide) ?_
          refine x_iret dX1_rankOf_67 rfl rfl ?_
          rw [if_pos (by unfold isF; omega), if_neg (by omega), if_neg ((ite01 hz).1 c58)] at hq
          exact hq
        · skip
          refine x_ldc hO.1 dX1_rankOf_61 k_X1_202 ?_
          refine x_goto (tgt := 67) dX1_rankOf_63 (by decide) ?_
          refine x_iret dX1_rankOf_67 rfl rfl ?_
          rw [if_pos (by unfold isF; omega), if_neg (by omega), if_pos ((ite01 hz).2 c58)] at hq
          exact hq
      · simp (disch := omega) only [nI_leI] at c28
        refine x_aload_n dX1_rankOf_31 rfl ?_
        refine x_get 2 hO dX1_rankOf_32 f_X1_195 (by assumption) ⟨by decide, by decide⟩ (v := .int (nI (ρ (bi j 2)))) (congrArg Value.int (vb j hj 2 (by decide))) ?_
        refine x_aload_n dX1_rankOf_35 rfl ?_
        refine x_get 2 hO dX1_rankOf_36 f_X1_79 (by assumption) ⟨by decide, by decide⟩ (v := .int (nI (ρ (bi j 1)))) (congrArg Value.int (vb j hj 1 (by decide))) ?_
        refine x_isub dX1_rankOf_39 ?_
        refine x_istore_n dX1_rankOf_40 (by decide) ?_
        refine x_sipush (v := nI 401) dX1_rankOf_41 (by decide) ?_
        refine x_aload_n dX1_rankOf_44 rfl ?_
        refine x_aload_n dX1_rankOf_45 rfl ?_
        refine x_callV (As := [_]) 3 hO dX1_rankOf_46 o_X1_hoursUntilLeaving v_X1_hoursUntilLeaving l_X1_198 ⟨by decide, by decide⟩ (by assumption) ⟨by decide, by decide⟩ rfl ⟨by decide, by decide⟩ rfl rfl (Nat.le_of_ble_eq_true rfl) (s_hoursUntil hO hS hV hW hb hj ?_)
        dsimp only [Option.toList, List.cons_append, List.nil_append]
        refine x_imul dX1_rankOf_49 ?_
        refine x_sipush (v := nI 400) dX1_rankOf_50 (by decide) ?_
        refine x_iadd dX1_rankOf_53 ?_
        refine x_iload_n dX1_rankOf_54 rfl ?_
        refine x_isub dX1_rankOf_55 ?_
        refine x_iret dX1_rankOf_56 rfl rfl ?_
        rw [if_pos (by unfold isF; omega), if_pos (by omega)] at hq
        rw [pk_sub (by omega), pk_mul, nI_add, pk_sub (by omega)]
        exact hq
    · simp (disch := omega) only [nI_ltI] at c15
      refine x_iconst (v := (-1)) dX1_rankOf_18 (by decide) ?_
      refine x_iret dX1_rankOf_19 rfl rfl ?_
      rw [if_neg (by unfold isF; omega)] at hq
      exact hq
theorem s_firstInLine {G : GT} {C : AH} {Q : QT} {X : XT} {d : Nat} {ρ : Rw} {lk : Nat → Nat} (hO : GO G) (hS : SkD C d) (hV : VaD (gI C) d ρ) (hW : Wf ρ) (hr : ∀ b, b < ρ 1 → gI C (d + 5 + b) 7 = enc (rk ρ lk b)) (hq : Q (some (.int (enc (nxt ρ lk)))) C) : Mt G M_X1_firstInLine [.ref d] C Q X := by
  refine Mt_of (by decide) (Nat.le_of_ble_eq_true rfl) ?_
  obtain ⟨s0, s1, s2, s3, v4, v5, v6, v7, v8, v9, v10⟩ := SkD_f hS hV
  obtain ⟨hK, -, -, -, -, k1, n1, k2, n2, k3, n3, k4, n4, hbus⟩ := id hS
  obtain ⟨w1, w2, w7, w8, w9, w10, w11, w11', w12, wB, wP⟩ := id hW
  have vb := hV.2.2.2.2.2.2.2.2.1
  have loop : ∀ m b : Nat, ρ 1 - b = m → b ≤ ρ 1 → Ex G M_X1_firstInLine Q X (mC M_X1_firstInLine) (mS M_X1_firstInLine) 7 [(0, .ref d), (1, .int (enc (fil ρ lk b).1)), (2, .int (nI (fil ρ lk b).2)), (3, .int (nI b))] [] C := by
    intro m
    induction m using Nat.strongRecOn with
    | _ m ih =>
    intro b hm hb
    have hle := (fil_le (ρ := ρ) (lk := lk) (n := b)).1
    refine x_iload_n dX1_firstInLine_7 rfl ?_
    refine x_aload_n dX1_firstInLine_8 rfl ?_
    refine x_get 3 hO dX1_firstInLine_9 f_X1_37 (by assumption) ⟨by decide, by decide⟩ (v := .int (nI (ρ 1))) v4 ?_
    refine x_icmp_ge (tgt := 49) dX1_firstInLine_12 (by decide) (fun c12 => ?_) (fun c12 => ?_)
    · skip
      refine x_iload_n dX1_firstInLine_49 rfl ?_
      refine x_iret dX1_firstInLine_50 rfl rfl ?_
      simp (disch := omega) only [nI_leI] at c12
      have : b = ρ 1 := by omega
      subst this
      rw [fil_nxt wB]
      exact hq
    · simp (disch := omega) only [nI_leI] at c12
      have hb9 : b < ρ 1 := by omega
      have kb := (hbus b (by omega)).2
      refine x_aload_n dX1_firstInLine_15 rfl ?_
      refine x_get 3 hO dX1_firstInLine_16 f_X1_11 (by assumption) ⟨by decide, by decide⟩ (v := .ref (d + 1)) s0 ?_
      refine x_iload_n dX1_firstInLine_19 rfl ?_
      refine x_aald 25 _ _ hO dX1_firstInLine_20 (by assumption) (by decide) rfl (by assumption) (by omega) (by decide) ?_
      rw [(hbus b (by omega)).1]
      refine x_get 2 hO dX1_firstInLine_21 f_X1_177 (by assumption) ⟨by decide, by decide⟩ (v := .int (enc (rk ρ lk b))) (congrArg Value.int (hr b hb9)) ?_
      refine x_istore dX1_firstInLine_24 (by decide) ?_
      refine x_iload dX1_firstInLine_26 rfl ?_
      refine x_iconst (v := (-1)) dX1_firstInLine_28 (by decide) ?_
      refine x_icmp_eq (tgt := 43) dX1_firstInLine_29 (by decide) (fun c29 => ?_) (fun c29 => ?_)
      · skip
        refine x_iinc (v := nI 1) dX1_firstInLine_43 rfl (by decide) (by decide) ?_
        refine x_goto (tgt := 7) dX1_firstInLine_46 (by decide) ?_
        simp only [nI_add]
        have hrk : rk ρ lk b = none := (enc_ne fun n hn => by have := rk_lt hn; omega).mp c29
        have e : fil ρ lk (b + 1) = fil ρ lk b := by simp only [fil, hrk]
        refine x_ls [(0, .ref d), (1, .int (enc (fil ρ lk (b + 1)).1)), (2, .int (nI (fil ρ lk (b + 1)).2)), (3, .int (nI (b + 1)))] ⟨rfl, by rw [e]; rfl, by rw [e]; rfl, rfl, trivial⟩ ?_
        exact ih (m - 1) (by omega) (b + 1) (by omega) (by omega)
      · cases hrk : rk ρ lk b with
        | none => exact absurd (by rw [hrk]; rfl) c29
        | some r =>
        have hrl := rk_lt hrk
        rw [show enc (some r) = nI r from rfl]
        refine x_iload dX1_firstInLine_32 rfl ?_
        refine x_iload_n dX1_firstInLine_34 rfl ?_
        refine x_icmp_ge (tgt := 43) dX1_firstInLine_35 (by decide) (fun c35 => ?_) (fun c35 => ?_)
        · simp (disch := omega) only [nI_leI] at c35
          refine x_iinc (v := nI 1) dX1_firstInLine_43 rfl (by decide) (by decide) ?_
          refine x_goto (tgt := 7) dX1_firstInLine_46 (by decide) ?_
          simp only [nI_add]
          have e : fil ρ lk (b + 1) = fil ρ lk b := by simp only [fil, hrk]; rw [if_neg (by omega)]
          refine x_ls [(0, .ref d), (1, .int (enc (fil ρ lk (b + 1)).1)), (2, .int (nI (fil ρ lk (b + 1)).2)), (3, .int (nI (b + 1)))] ⟨rfl, by rw [e]; rfl, by rw [e]; rfl, rfl, trivial⟩ ?_
          exact ih (m - 1) (by omega) (b + 1) (by omega) (by omega)
        · simp (disch := omega) only [nI_leI] at c35
          refine x_iload_n dX1_firstInLine_38 rfl ?_
          refine x_istore_n dX1_firstInLine_39 (by decide) ?_
          refine x_iload dX1_firstInLine_40 rfl ?_
          refine x_istore_n dX1_firstInLine_42 (by decide) ?_
          refine x_iinc (v := nI 1) dX1_firstInLine_43 rfl (by decide) (by decide) ?_
          refine x_goto (tgt := 7) dX1_firstInLine_46 (by decide) ?_
          simp only [nI_add]
          have e : fil ρ lk (b + 1) = (some b, r) := by simp only [fil, hrk]; rw [if_pos (by omega)]
          refine x_ls [(0, .ref d), (1, .int (enc (fil ρ lk (b + 1)).1)), (2, .int (nI (fil ρ lk (b + 1)).2)), (3, .int (nI (b + 1)))] ⟨rfl, by rw [e]; rfl, by rw [e]; rfl, rfl, trivial⟩ ?_
          exact ih (m - 1) (by omega) (b + 1) (by omega) (by omega)
  refine x_iconst (v := (-1)) dX1_firstInLine_0 (by decide) ?_
  refine x_istore_n dX1_firstInLine_1 (by decide) ?_
  refine x_ldc hO.1 dX1_firstInLine_2 k_X1_203 ?_
  refine x_istore_n dX1_firstInLine_4 (by decide) ?_
  refine x_iconst (v := nI 0) dX1_firstInLine_5 (by decide) ?_
  refine x_istore_n dX1_firstInLine_6 (by decide) ?_
  refine x_ls [(0, .ref d), (1, .int (-1)), (2, .int 1000001), (3, .int (nI 0))] ⟨rfl, rfl, rfl, rfl, trivial⟩ ?_
  exact loop _ 0 rfl (Nat.zero_le _)

