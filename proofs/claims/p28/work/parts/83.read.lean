/-! the law: a sign, letter by letter -/
theorem m_in {G : GT} {C : AH} {Q : QT} {v a b : Int64} (hq : ∀ r : Int32, r = (if a ≤ v ∧ v ≤ b then 1 else 0) → Q (some (.int r)) C) : Mt G M_L_in [.long v, .long a, .long b] C Q NX := by
  refine Mt_of (by decide) (Nat.le_of_ble_eq_true rfl) ?_
  by_cases h1 : a ≤ v
  · by_cases h2 : v ≤ b
    · skip
      refine x_lload_n dL_in_0 rfl ?_
      refine x_lload_n dL_in_1 rfl ?_
      refine x_lc_ltN (tgt := 17) dL_in_2 dL_in_3 (by decide) (Int64.not_lt.mpr h1) ?_
      refine x_lload_n dL_in_6 rfl ?_
      refine x_lload dL_in_7 rfl ?_
      refine x_lc_gtN (tgt := 17) dL_in_9 dL_in_10 (by decide) (Int64.not_lt.mpr h2) ?_
      refine x_iconst (v := nI 1) dL_in_13 (by decide) ?_
      refine x_goto (tgt := 18) dL_in_14 (by decide) ?_
      refine x_iret dL_in_18 rfl (by first | rfl | assumption) ?_
      exact hq _ (if_pos ⟨h1, h2⟩).symm
    · skip
      refine x_lload_n dL_in_0 rfl ?_
      refine x_lload_n dL_in_1 rfl ?_
      refine x_lc_ltN (tgt := 17) dL_in_2 dL_in_3 (by decide) (Int64.not_lt.mpr h1) ?_
      refine x_lload_n dL_in_6 rfl ?_
      refine x_lload dL_in_7 rfl ?_
      refine x_lc_gtT (tgt := 17) dL_in_9 dL_in_10 (by decide) (Int64.not_le.mp h2) ?_
      refine x_iconst (v := nI 0) dL_in_17 (by decide) ?_
      refine x_iret dL_in_18 rfl (by first | rfl | assumption) ?_
      exact hq _ (if_neg fun q => h2 q.2).symm
  · skip
    refine x_lload_n dL_in_0 rfl ?_
    refine x_lload_n dL_in_1 rfl ?_
    refine x_lc_ltT (tgt := 17) dL_in_2 dL_in_3 (by decide) (Int64.not_le.mp h1) ?_
    refine x_iconst (v := nI 0) dL_in_17 (by decide) ?_
    refine x_iret dL_in_18 rfl (by first | rfl | assumption) ?_
    exact hq _ (if_neg fun q => h1 q.1).symm
def vl (d : Nat → Nat) : Nat → Nat
  | 0 => 0
  | i + 1 => 10 * vl d i + d i
def dgd (v i : Nat) : Nat := (dgs v).getD i 0 - 48
theorem dg_all : ∀ v : Fin 1000, (∀ i : Fin 3, i.val < (dgs v.val).length → (dgs v.val)[i.val]? = some (48 + dgd v.val i.val) ∧ dgd v.val i.val ≤ 9) ∧ vl (dgd v.val) (dgs v.val).length = v.val ∧ (dgs v.val).length ≤ 3 := by decide +kernel
theorem dg_ok {v : Nat} (h : v < 1000) : (∀ i, i < (dgs v).length → (dgs v)[i]? = some (48 + dgd v i) ∧ dgd v i ≤ 9) ∧ vl (dgd v) (dgs v).length = v ∧ (dgs v).length ≤ 3 := by
  obtain ⟨a, b, c⟩ := dg_all ⟨v, h⟩
  exact ⟨fun i hi => a ⟨i, Nat.lt_of_lt_of_le hi c⟩ hi, b, c⟩
theorem vl_b {d : Nat → Nat} {m i : Nat} (h : ∀ i, i < m → d i ≤ 9) (hm : m ≤ 3) (hi : i ≤ m) : vl d i < 1000 := by
  have h0 : 0 < m → d 0 ≤ 9 := h 0
  have h1 : 1 < m → d 1 ≤ 9 := h 1
  have h2 : 2 < m → d 2 ≤ 9 := h 2
  rcases (show i = 0 ∨ i = 1 ∨ i = 2 ∨ i = 3 by omega) with rfl | rfl | rfl | rfl
  · exact Nat.le_of_ble_eq_true rfl
  · show 10 * 0 + d 0 < 1000
    omega
  · show 10 * (10 * 0 + d 0) + d 1 < 1000
    omega
  · show 10 * (10 * (10 * 0 + d 0) + d 1) + d 2 < 1000
    omega
theorem ap_r {l m : List Nat} {i : Nat} : (l ++ m)[l.length + i]? = m[i]? := by rw [List.getElem?_append_right (by omega), Nat.add_sub_cancel_left]
theorem ap_l {l m : List Nat} {i : Nat} (h : i < l.length) : (l ++ m)[i]? = l[i]? := List.getElem?_append_left h
theorem sgV_of {ρ : Rw} {j k v : Nat} (h8 : ρ 1 ≤ 8) (hj : j < ρ 1) (hk : k < 2 ^ 31) (hv : v < 2 ^ 31) (h : (sgL ρ j)[k]? = some v) : vSi ρ (nI j) (nI k) = lN v := by
  rw [vSi_N h8 hj hk]
  obtain ⟨h1, h2⟩ := List.getElem?_eq_some_iff.mp h
  unfold sgV
  rw [if_pos h1, List.getD_eq_getElem?_getD, h]
  exact nI_l hv

theorem sgL_eq {ρ : Rw} {j : Nat} (hj : j < 8) : sgL ρ j = [98, 48 + j, 32] ++ (dgs (ρ (bi j 1)) ++ (mrk (ρ (bi j 1)) ++ ([47] ++ (dgs (ρ (bi j 0)) ++ ([32] ++ strW (wdi ρ j)))))) := by
  have e : dgs j = [48 + j] := if_pos (by omega)
  unfold sgL
  rw [e]
  simp only [List.append_assoc, List.cons_append, List.nil_append]
theorem sg_at {ρ : Rw} {j : Nat} (hj : j < 8) : (sgL ρ j)[0]? = some 98 ∧ (sgL ρ j)[1]? = some (48 + j) ∧ (sgL ρ j)[2]? = some 32 ∧ (∀ i, i < (dgs (ρ (bi j 1))).length → (sgL ρ j)[3 + i]? = (dgs (ρ (bi j 1)))[i]?) ∧
    (sgL ρ j)[3 + (dgs (ρ (bi j 1))).length]? = some (if 100 ≤ ρ (bi j 1) then 33 else 47) ∧ (sgL ρ j)[3 + ((dgs (ρ (bi j 1))).length + (mrk (ρ (bi j 1))).length)]? = some 47 ∧
    (∀ i, i < (dgs (ρ (bi j 0))).length → (sgL ρ j)[3 + ((dgs (ρ (bi j 1))).length + ((mrk (ρ (bi j 1))).length + (1 + i)))]? = (dgs (ρ (bi j 0)))[i]?) ∧
    ∀ i, (sgL ρ j)[3 + ((dgs (ρ (bi j 1))).length + ((mrk (ρ (bi j 1))).length + (1 + ((dgs (ρ (bi j 0))).length + i))))]? = ([32] ++ strW (wdi ρ j))[i]? := by
  rw [sgL_eq hj]
  refine ⟨rfl, rfl, rfl, fun i hi => ?_, ?_, ?_, fun i hi => ?_, fun i => ?_⟩
  · exact (ap_r (l := [98, 48 + j, 32])).trans (ap_l hi)
  · refine (ap_r (l := [98, 48 + j, 32])).trans ((ap_r (i := 0)).trans ?_)
    unfold mrk
    split <;> rfl
  · exact (ap_r (l := [98, 48 + j, 32])).trans (ap_r.trans ((ap_r (i := 0)).trans rfl))
  · exact (ap_r (l := [98, 48 + j, 32])).trans (ap_r.trans (ap_r.trans ((ap_r (l := [47])).trans (ap_l hi))))
  · exact (ap_r (l := [98, 48 + j, 32])).trans (ap_r.trans (ap_r.trans ((ap_r (l := [47])).trans ap_r)))
theorem in_no {e : Nat} (h : e < 48) : ¬ ((48 : Int64) ≤ lN e ∧ lN e ≤ 57) := fun q => by
  have := (pk_lLE (a := 48) (b := e) (by omega) (by omega)).mp q.1
  omega
theorem in_yes {d : Nat} (h : d ≤ 9) : (48 : Int64) ≤ lN (48 + d) ∧ lN (48 + d) ≤ 57 := ⟨(pk_lLE (a := 48) (b := 48 + d) (by omega) (by omega)).mpr (by omega), (pk_lLE (a := 48 + d) (b := 57) (by omega) (by omega)).mpr (by omega)⟩
theorem dg_step {d : Nat → Nat} {i : Nat} : lN (vl d (i + 1)) = 10 * lN (vl d i) + lN (48 + d i) - 48 := by
  show lN (10 * vl d i + d i) = lN 10 * lN (vl d i) + lN (48 + d i) - lN 48
  rw [lN_mul, lN_add, lN_sub (by omega)]
  exact congrArg lN (by omega)
theorem rd_1 {G : GT} {Q : QT} {C0 : AH} {sa va : Nat → Nat} {x T n : Nat} {S : Nat → Nat} {ρ : Rw} {L : List Rw} {K : Nat → Option Rw} {k0 n0 j p0 m9 e : Nat} {d : Nat → Nat} (hN : GN G) (hO : GO G) (hX : GX G sa va) (hT : T ≤ 40000) (hp : p0 + m9 < 1000) (hd : ∀ i, i < m9 → vSi ρ (nI j) (nI (p0 + i)) = lN (48 + d i) ∧ d i ≤ 9) (he : vSi ρ (nI j) (nI (p0 + m9)) = lN e) (hev : e < 48) : ∀ (m i : Nat) (C : AH), m + i = m9 → RF T C0 C x (S, n, ρ, L, K) → (∀ C' : AH, RF T C0 C' x (S, n, ρ, L, K) → Ex G M_L_read Q NX (k0) (n0) 51 [(0, .ref x), (1, .int (nI j)), (2, .long (lN (vl d m9))), (4, .long 0), (6, .int (nI (p0 + m9)))] [] C') → Ex G M_L_read Q NX (8 * m + (k0 + 4)) (64 * m + (n0 + 32)) 8 [(0, .ref x), (1, .int (nI j)), (2, .long (lN (vl d i))), (4, .long 0), (6, .int (nI (p0 + i)))] [] C := by
  intro m
  induction m with
  | zero =>
    intro i C hi h kk
    have hi : i = m9 := by omega
    subst hi
    refine x_aload_n dL_read_8 rfl ?_
    refine x_iload_n dL_read_9 rfl ?_
    refine x_iload dL_read_10 rfl ?_
    refine x_cX (c9 := 4) (s9 := 32) (As := [_, _, _]) hO dL_read_12 o_L_sign s_L_sign l_L_119 ⟨by decide, by decide⟩ ⟨rfl, rfl⟩ ⟨by omega, by omega⟩ rfl rfl (Nat.le_of_ble_eq_true rfl) (q_sign hN hO hX hT h (fun C1 h => ?_))
    dsimp only [Option.toList, List.cons_append, List.nil_append]
    rw [he]
    refine x_ldc2 hO.1 dL_read_15 k_L_160 ?_
    refine x_ldc2 hO.1 dL_read_18 k_L_162 ?_
    refine x_cS (c9 := 0) (s9 := 0) (As := [_, _, _]) hO dL_read_21 o_L_in s_L_in l_L_164 ⟨by decide, by decide⟩ ⟨rfl, rfl⟩ ⟨by omega, by omega⟩ rfl rfl (Nat.le_of_ble_eq_true rfl) (m_in (fun r hr => ?_))
    dsimp only [Option.toList, List.cons_append, List.nil_append]
    rw [hr, if_neg (in_no hev)]
    refine x_if_eqT (tgt := 51) dL_read_24 (by decide) rfl ?_
    refine x_ls [(0, .ref x), (1, .int (nI j)), (2, .long (lN (vl d i))), (4, .long 0), (6, .int (nI (p0 + i)))] ⟨rfl, rfl, rfl, rfl, rfl, trivial⟩ ?_
    refine x_room (k := k0) (n := n0) (by omega) (by omega) ?_
    exact kk _ h
  | succ m ih =>
    intro i C hi h kk
    refine x_aload_n dL_read_8 rfl ?_
    refine x_iload_n dL_read_9 rfl ?_
    refine x_iload dL_read_10 rfl ?_
    refine x_cX (c9 := 4) (s9 := 32) (As := [_, _, _]) hO dL_read_12 o_L_sign s_L_sign l_L_119 ⟨by decide, by decide⟩ ⟨rfl, rfl⟩ ⟨by omega, by omega⟩ rfl rfl (Nat.le_of_ble_eq_true rfl) (q_sign hN hO hX hT h (fun C1 h => ?_))
    dsimp only [Option.toList, List.cons_append, List.nil_append]
    rw [(hd i (by omega)).1]
    refine x_ldc2 hO.1 dL_read_15 k_L_160 ?_
    refine x_ldc2 hO.1 dL_read_18 k_L_162 ?_
    refine x_cS (c9 := 0) (s9 := 0) (As := [_, _, _]) hO dL_read_21 o_L_in s_L_in l_L_164 ⟨by decide, by decide⟩ ⟨rfl, rfl⟩ ⟨by omega, by omega⟩ rfl rfl (Nat.le_of_ble_eq_true rfl) (m_in (fun r hr => ?_))
    dsimp only [Option.toList, List.cons_append, List.nil_append]
    rw [hr, if_pos (in_yes (hd i (by omega)).2)]
    refine x_if_eqN (tgt := 51) dL_read_24 (by decide) (by decide) ?_
    refine x_ldc2 hO.1 dL_read_27 k_L_168 ?_
    refine x_lload_n dL_read_30 rfl ?_
    refine x_lmul dL_read_31 ?_
    refine x_aload_n dL_read_32 rfl ?_
    refine x_iload_n dL_read_33 rfl ?_
    refine x_iload dL_read_34 rfl ?_
    refine x_cX (c9 := 4) (s9 := 32) (As := [_, _, _]) hO dL_read_36 o_L_sign s_L_sign l_L_119 ⟨by decide, by decide⟩ ⟨rfl, rfl⟩ ⟨by omega, by omega⟩ rfl rfl (Nat.le_of_ble_eq_true rfl) (q_sign hN hO hX hT h (fun C1 h => ?_))
    dsimp only [Option.toList, List.cons_append, List.nil_append]
    rw [(hd i (by omega)).1]
    refine x_ladd dL_read_39 ?_
    refine x_ldc2 hO.1 dL_read_40 k_L_160 ?_
    refine x_lsub dL_read_43 ?_
    refine x_lstore_n dL_read_44 (by decide) ?_
    refine x_iinc (v := nI 1) dL_read_45 rfl (by decide) (by decide) ?_
    refine x_goto (tgt := 8) dL_read_48 (by decide) ?_
    refine x_ls [(0, .ref x), (1, .int (nI j)), (2, .long (lN (vl d (i + 1)))), (4, .long 0), (6, .int (nI (p0 + (i + 1))))] ⟨rfl, rfl, (by rw [dg_step]; rfl), rfl, (by rw [show p0 + (i + 1) = p0 + i + 1 by omega, ← nI_add]; rfl), trivial⟩ ?_
    refine x_room (k := 8 * m + (k0 + 4)) (n := 64 * m + (n0 + 32)) (by omega) (by omega) ?_
    exact ih (i + 1) _ (by omega) h kk

theorem rd_2 {G : GT} {Q : QT} {C0 : AH} {sa va : Nat → Nat} {x T n : Nat} {S : Nat → Nat} {ρ : Rw} {L : List Rw} {K : Nat → Option Rw} {k0 n0 j p0 m9 e c9 : Nat} {d : Nat → Nat} (hN : GN G) (hO : GO G) (hX : GX G sa va) (hT : T ≤ 40000) (hp : p0 + m9 < 1000) (hd : ∀ i, i < m9 → vSi ρ (nI j) (nI (p0 + i)) = lN (48 + d i) ∧ d i ≤ 9) (he : vSi ρ (nI j) (nI (p0 + m9)) = lN e) (hev : e < 48) : ∀ (m i : Nat) (C : AH), m + i = m9 → RF T C0 C x (S, n, ρ, L, K) → (∀ C' : AH, RF T C0 C' x (S, n, ρ, L, K) → Ex G M_L_read Q NX (k0) (n0) 185 [(0, .ref x), (1, .int (nI j)), (2, .long (lN c9)), (4, .long (lN (vl d m9))), (6, .int (nI (p0 + m9))), (7, .int (nI 1))] [] C') → Ex G M_L_read Q NX (8 * m + (k0 + 4)) (64 * m + (n0 + 32)) 140 [(0, .ref x), (1, .int (nI j)), (2, .long (lN c9)), (4, .long (lN (vl d i))), (6, .int (nI (p0 + i))), (7, .int (nI 1))] [] C := by
  intro m
  induction m with
  | zero =>
    intro i C hi h kk
    have hi : i = m9 := by omega
    subst hi
    refine x_aload_n dL_read_140 rfl ?_
    refine x_iload_n dL_read_141 rfl ?_
    refine x_iload dL_read_142 rfl ?_
    refine x_cX (c9 := 4) (s9 := 32) (As := [_, _, _]) hO dL_read_144 o_L_sign s_L_sign l_L_119 ⟨by decide, by decide⟩ ⟨rfl, rfl⟩ ⟨by omega, by omega⟩ rfl rfl (Nat.le_of_ble_eq_true rfl) (q_sign hN hO hX hT h (fun C1 h => ?_))
    dsimp only [Option.toList, List.cons_append, List.nil_append]
    rw [he]
    refine x_ldc2 hO.1 dL_read_147 k_L_160 ?_
    refine x_ldc2 hO.1 dL_read_150 k_L_162 ?_
    refine x_cS (c9 := 0) (s9 := 0) (As := [_, _, _]) hO dL_read_153 o_L_in s_L_in l_L_164 ⟨by decide, by decide⟩ ⟨rfl, rfl⟩ ⟨by omega, by omega⟩ rfl rfl (Nat.le_of_ble_eq_true rfl) (m_in (fun r hr => ?_))
    dsimp only [Option.toList, List.cons_append, List.nil_append]
    rw [hr, if_neg (in_no hev)]
    refine x_if_eqT (tgt := 185) dL_read_156 (by decide) rfl ?_
    refine x_ls [(0, .ref x), (1, .int (nI j)), (2, .long (lN c9)), (4, .long (lN (vl d i))), (6, .int (nI (p0 + i))), (7, .int (nI 1))] ⟨rfl, rfl, rfl, rfl, rfl, rfl, trivial⟩ ?_
    refine x_room (k := k0) (n := n0) (by omega) (by omega) ?_
    exact kk _ h
  | succ m ih =>
    intro i C hi h kk
    refine x_aload_n dL_read_140 rfl ?_
    refine x_iload_n dL_read_141 rfl ?_
    refine x_iload dL_read_142 rfl ?_
    refine x_cX (c9 := 4) (s9 := 32) (As := [_, _, _]) hO dL_read_144 o_L_sign s_L_sign l_L_119 ⟨by decide, by decide⟩ ⟨rfl, rfl⟩ ⟨by omega, by omega⟩ rfl rfl (Nat.le_of_ble_eq_true rfl) (q_sign hN hO hX hT h (fun C1 h => ?_))
    dsimp only [Option.toList, List.cons_append, List.nil_append]
    rw [(hd i (by omega)).1]
    refine x_ldc2 hO.1 dL_read_147 k_L_160 ?_
    refine x_ldc2 hO.1 dL_read_150 k_L_162 ?_
    refine x_cS (c9 := 0) (s9 := 0) (As := [_, _, _]) hO dL_read_153 o_L_in s_L_in l_L_164 ⟨by decide, by decide⟩ ⟨rfl, rfl⟩ ⟨by omega, by omega⟩ rfl rfl (Nat.le_of_ble_eq_true rfl) (m_in (fun r hr => ?_))
    dsimp only [Option.toList, List.cons_append, List.nil_append]
    rw [hr, if_pos (in_yes (hd i (by omega)).2)]
    refine x_if_eqN (tgt := 185) dL_read_156 (by decide) (by decide) ?_
    refine x_ldc2 hO.1 dL_read_159 k_L_168 ?_
    refine x_lload dL_read_162 rfl ?_
    refine x_lmul dL_read_164 ?_
    refine x_aload_n dL_read_165 rfl ?_
    refine x_iload_n dL_read_166 rfl ?_
    refine x_iload dL_read_167 rfl ?_
    refine x_cX (c9 := 4) (s9 := 32) (As := [_, _, _]) hO dL_read_169 o_L_sign s_L_sign l_L_119 ⟨by decide, by decide⟩ ⟨rfl, rfl⟩ ⟨by omega, by omega⟩ rfl rfl (Nat.le_of_ble_eq_true rfl) (q_sign hN hO hX hT h (fun C1 h => ?_))
    dsimp only [Option.toList, List.cons_append, List.nil_append]
    rw [(hd i (by omega)).1]
    refine x_ladd dL_read_172 ?_
    refine x_ldc2 hO.1 dL_read_173 k_L_160 ?_
    refine x_lsub dL_read_176 ?_
    refine x_lstore dL_read_177 (by decide) ?_
    refine x_iinc (v := nI 1) dL_read_179 rfl (by decide) (by decide) ?_
    refine x_goto (tgt := 140) dL_read_182 (by decide) ?_
    refine x_ls [(0, .ref x), (1, .int (nI j)), (2, .long (lN c9)), (4, .long (lN (vl d (i + 1)))), (6, .int (nI (p0 + (i + 1)))), (7, .int (nI 1))] ⟨rfl, rfl, rfl, (by rw [dg_step]; rfl), (by rw [show p0 + (i + 1) = p0 + i + 1 by omega, ← nI_add]; rfl), rfl, trivial⟩ ?_
    refine x_room (k := 8 * m + (k0 + 4)) (n := 64 * m + (n0 + 32)) (by omega) (by omega) ?_
    exact ih (i + 1) _ (by omega) h kk

def wdN (i : Nat) : Nat := if i = 4 then 111 else if i = 5 then 108 else if i = 6 then 102 else 112
def rdN (ρ : Rw) (j : Nat) : Nat := 1000000 * ρ (bi j 1) + 1000 * ρ (bi j 0) + wdN (wdi ρ j)
theorem wd_at {ρ : Rw} {j : Nat} : ∃ a b : Nat, ([32] ++ strW (wdi ρ j))[1]? = some a ∧ ([32] ++ strW (wdi ρ j))[2]? = some b ∧ a < 1000 ∧ b < 1000 ∧ wdN (wdi ρ j) = a + (if b = 107 then 1 else 0) := by
  unfold wdi
  split
  · exact ⟨111, 117, rfl, rfl, by decide, by decide, by decide⟩
  · split
    · exact ⟨108, 111, rfl, rfl, by decide, by decide, by decide⟩
    · split
      · exact ⟨102, 117, rfl, rfl, by decide, by decide, by decide⟩
      · exact ⟨111, 107, rfl, rfl, by decide, by decide, by decide⟩
theorem m_read {G : GT} {C : AH} {Q : QT} {C0 : AH} {sa va : Nat → Nat} {x T n : Nat} {S : Nat → Nat} {ρ : Rw} {L : List Rw} {K : Nat → Option Rw} {j : Nat} (hN : GN G) (hO : GO G) (hX : GX G sa va) (hT : T ≤ 40000) (hj : j < ρ 1) (h : RF T C0 C x (S, n, ρ, L, K)) (hq : ∀ C' : AH, RF T C0 C' x (S, n, ρ, L, K) → Q (some (.long (lN (rdN ρ j)))) C') : Mt G M_L_read [.ref x, .int (nI j)] C Q NX := by
  refine Mt_of (by decide) (Nat.le_of_ble_eq_true rfl) ?_
  have hk : Ok T ρ := h.1.1.1
  obtain ⟨hW, hB⟩ := id hk
  obtain ⟨w1, w2, w7, w8, w9, w10, w11, w11', w12, wB, wP⟩ := id hW
  obtain ⟨g1, g2, g3, -⟩ := wB j hj
  obtain ⟨a1, a2, a3, a4, a5, a6, a7, a8⟩ := sg_at (ρ := ρ) (j := j) (by omega)
  obtain ⟨D1, D2, D3⟩ := dg_ok (v := ρ (bi j 1)) (by omega)
  obtain ⟨Z1, Z2, Z3⟩ := dg_ok (v := ρ (bi j 0)) (by omega)
  obtain ⟨wa, wb, e1, e2, e3, e4, hw⟩ := wd_at (ρ := ρ) (j := j)
  have b0 := a8 0
  have b1 := (a8 1).trans e1
  have b2 := (a8 2).trans e2
  obtain ⟨lc, hlc⟩ : ∃ lc, lc = (dgs (ρ (bi j 1))).length := ⟨_, rfl⟩
  obtain ⟨lz, hlz⟩ : ∃ lz, lz = (dgs (ρ (bi j 0))).length := ⟨_, rfl⟩
  obtain ⟨lm, hlm⟩ : ∃ lm, lm = (mrk (ρ (bi j 1))).length := ⟨_, rfl⟩
  have hm1 : lm = if 100 ≤ ρ (bi j 1) then 1 else 0 := by rw [hlm]; unfold mrk; split <;> rfl
  rw [← hlc] at D1 D2 D3 a4 a5 a6 a7 b0 b1 b2
  rw [← hlz] at Z1 Z2 Z3 a7 b0 b1 b2
  rw [← hlm] at a6 a7 b0 b1 b2
  have hlm1 : lm ≤ 1 := by rw [hm1]; split <;> omega
  rw [show 3 + (lc + (lm + (1 + (lz + 0)))) = 3 + (lc + (lm + 1)) + lz by omega] at b0
  rw [show 3 + (lc + (lm + (1 + (lz + 1)))) = 3 + (lc + (lm + 1)) + lz + 1 by omega] at b1
  rw [show 3 + (lc + (lm + (1 + (lz + 2)))) = 3 + (lc + (lm + 1)) + lz + 2 by omega] at b2
  refine x_room (k := 100) (n := 800) (by decide) (by decide) ?_
  have fin : ∀ C9 : AH, RF T C0 C9 x (S, n, ρ, L, K) → Ex G M_L_read Q NX (8 * lz + (16 + 4)) (64 * lz + (128 + 32)) 140 [(0, .ref x), (1, .int (nI j)), (2, .long (lN (ρ (bi j 1)))), (4, .long (lN (vl (dgd (ρ (bi j 0))) 0))), (6, .int (nI (3 + (lc + (lm + 1)) + 0))), (7, .int (nI 1))] [] C9 := by
    intro C9 h
    refine rd_2 hN hO hX hT (by omega) (fun i hi => ⟨sgV_of w1 hj (by omega) (by have := (Z1 i (by omega)).2; omega) ((congrArg (fun q => (sgL ρ j)[q]?) (by omega)).trans ((a7 i (by omega)).trans (Z1 i (by omega)).1)), (Z1 i (by omega)).2⟩) (sgV_of w1 hj (by omega) (by decide) b0) (by decide) lz 0 C9 rfl h (fun C1 h => ?_)
    rw [Z2]
    by_cases hb : wb = 107
    · skip
      refine x_iload dL_read_185 rfl ?_
      refine x_if_eqN (tgt := 204) dL_read_187 (by decide) (by decide) ?_
      refine x_aload_n dL_read_190 rfl ?_
      refine x_iload_n dL_read_191 rfl ?_
      refine x_iload dL_read_192 rfl ?_
      refine x_cX (c9 := 4) (s9 := 32) (As := [_, _, _]) hO dL_read_194 o_L_sign s_L_sign l_L_119 ⟨by decide, by decide⟩ ⟨rfl, rfl⟩ ⟨by omega, by omega⟩ rfl rfl (Nat.le_of_ble_eq_true rfl) (q_sign hN hO hX hT h (fun C1 h => ?_))
      dsimp only [Option.toList, List.cons_append, List.nil_append]
      rw [sgV_of w1 hj (by omega) (by decide) b0]
      refine x_ldc2 hO.1 dL_read_197 k_L_174 ?_
      refine x_lc_eqT (tgt := 210) dL_read_200 dL_read_201 (by decide) rfl ?_
      refine x_ldc2 hO.1 dL_read_210 k_L_180 ?_
      refine x_lload_n dL_read_213 rfl ?_
      refine x_lmul dL_read_214 ?_
      refine x_ldc2 hO.1 dL_read_215 k_L_182 ?_
      refine x_lload dL_read_218 rfl ?_
      refine x_lmul dL_read_220 ?_
      refine x_ladd dL_read_221 ?_
      refine x_aload_n dL_read_222 rfl ?_
      refine x_iload_n dL_read_223 rfl ?_
      refine x_iload dL_read_224 rfl ?_
      refine x_iconst (v := nI 1) dL_read_226 (by decide) ?_
      refine x_iadd dL_read_227 ?_
      rw [nI_add]
      refine x_cX (c9 := 4) (s9 := 32) (As := [_, _, _]) hO dL_read_228 o_L_sign s_L_sign l_L_119 ⟨by decide, by decide⟩ ⟨rfl, rfl⟩ ⟨by omega, by omega⟩ rfl rfl (Nat.le_of_ble_eq_true rfl) (q_sign hN hO hX hT h (fun C1 h => ?_))
      dsimp only [Option.toList, List.cons_append, List.nil_append]
      rw [sgV_of w1 hj (by omega) (by omega) b1]
      refine x_ladd dL_read_231 ?_
      refine x_aload_n dL_read_232 rfl ?_
      refine x_iload_n dL_read_233 rfl ?_
      refine x_iload dL_read_234 rfl ?_
      refine x_iconst (v := nI 2) dL_read_236 (by decide) ?_
      refine x_iadd dL_read_237 ?_
      rw [nI_add]
      refine x_cX (c9 := 4) (s9 := 32) (As := [_, _, _]) hO dL_read_238 o_L_sign s_L_sign l_L_119 ⟨by decide, by decide⟩ ⟨rfl, rfl⟩ ⟨by omega, by omega⟩ rfl rfl (Nat.le_of_ble_eq_true rfl) (q_sign hN hO hX hT h (fun C1 h => ?_))
      dsimp only [Option.toList, List.cons_append, List.nil_append]
      rw [sgV_of w1 hj (by omega) (by omega) b2]
      refine x_ldc2 hO.1 dL_read_241 k_L_184 ?_
      refine x_lc_neN (tgt := 252) dL_read_244 dL_read_245 (by decide) (congrArg lN hb) ?_
      refine x_lconst (v := 1) dL_read_248 (by decide) ?_
      refine x_goto (tgt := 253) dL_read_249 (by decide) ?_
      refine x_ladd dL_read_253 ?_
      refine x_lret dL_read_254 rfl ?_
      refine q_eq ?_ (hq _ h)
      show lN (rdN ρ j) = lN 1000000 * lN (ρ (bi j 1)) + lN 1000 * lN (ρ (bi j 0)) + lN wa + lN 1
      rw [lN_mul, lN_mul, lN_add, lN_add, lN_add]
      unfold rdN
      rw [hw, if_pos hb]
      exact congrArg lN (by omega)
    · skip
      refine x_iload dL_read_185 rfl ?_
      refine x_if_eqN (tgt := 204) dL_read_187 (by decide) (by decide) ?_
      refine x_aload_n dL_read_190 rfl ?_
      refine x_iload_n dL_read_191 rfl ?_
      refine x_iload dL_read_192 rfl ?_
      refine x_cX (c9 := 4) (s9 := 32) (As := [_, _, _]) hO dL_read_194 o_L_sign s_L_sign l_L_119 ⟨by decide, by decide⟩ ⟨rfl, rfl⟩ ⟨by omega, by omega⟩ rfl rfl (Nat.le_of_ble_eq_true rfl) (q_sign hN hO hX hT h (fun C1 h => ?_))
      dsimp only [Option.toList, List.cons_append, List.nil_append]
      rw [sgV_of w1 hj (by omega) (by decide) b0]
      refine x_ldc2 hO.1 dL_read_197 k_L_174 ?_
      refine x_lc_eqT (tgt := 210) dL_read_200 dL_read_201 (by decide) rfl ?_
      refine x_ldc2 hO.1 dL_read_210 k_L_180 ?_
      refine x_lload_n dL_read_213 rfl ?_
      refine x_lmul dL_read_214 ?_
      refine x_ldc2 hO.1 dL_read_215 k_L_182 ?_
      refine x_lload dL_read_218 rfl ?_
      refine x_lmul dL_read_220 ?_
      refine x_ladd dL_read_221 ?_
      refine x_aload_n dL_read_222 rfl ?_
      refine x_iload_n dL_read_223 rfl ?_
      refine x_iload dL_read_224 rfl ?_
      refine x_iconst (v := nI 1) dL_read_226 (by decide) ?_
      refine x_iadd dL_read_227 ?_
      rw [nI_add]
      refine x_cX (c9 := 4) (s9 := 32) (As := [_, _, _]) hO dL_read_228 o_L_sign s_L_sign l_L_119 ⟨by decide, by decide⟩ ⟨rfl, rfl⟩ ⟨by omega, by omega⟩ rfl rfl (Nat.le_of_ble_eq_true rfl) (q_sign hN hO hX hT h (fun C1 h => ?_))
      dsimp only [Option.toList, List.cons_append, List.nil_append]
      rw [sgV_of w1 hj (by omega) (by omega) b1]
      refine x_ladd dL_read_231 ?_
      refine x_aload_n dL_read_232 rfl ?_
      refine x_iload_n dL_read_233 rfl ?_
      refine x_iload dL_read_234 rfl ?_
      refine x_iconst (v := nI 2) dL_read_236 (by decide) ?_
      refine x_iadd dL_read_237 ?_
      rw [nI_add]
      refine x_cX (c9 := 4) (s9 := 32) (As := [_, _, _]) hO dL_read_238 o_L_sign s_L_sign l_L_119 ⟨by decide, by decide⟩ ⟨rfl, rfl⟩ ⟨by omega, by omega⟩ rfl rfl (Nat.le_of_ble_eq_true rfl) (q_sign hN hO hX hT h (fun C1 h => ?_))
      dsimp only [Option.toList, List.cons_append, List.nil_append]
      rw [sgV_of w1 hj (by omega) (by omega) b2]
      refine x_ldc2 hO.1 dL_read_241 k_L_184 ?_
      refine x_lc_neT (tgt := 252) dL_read_244 dL_read_245 (by decide) (fun q => hb ((pk_lEQ (by omega) (by decide)).mp q)) ?_
      refine x_lconst (v := 0) dL_read_252 (by decide) ?_
      refine x_ladd dL_read_253 ?_
      refine x_lret dL_read_254 rfl ?_
      refine q_eq ?_ (hq _ h)
      show lN (rdN ρ j) = lN 1000000 * lN (ρ (bi j 1)) + lN 1000 * lN (ρ (bi j 0)) + lN wa + lN 0
      rw [lN_mul, lN_mul, lN_add, lN_add, lN_add]
      unfold rdN
      rw [hw, if_neg hb]
      exact congrArg lN (by omega)
  refine x_lconst (v := 0) dL_read_0 (by decide) ?_
  refine x_lstore_n dL_read_1 (by decide) ?_
  refine x_lconst (v := 0) dL_read_2 (by decide) ?_
  refine x_lstore dL_read_3 (by decide) ?_
  refine x_iconst (v := nI 3) dL_read_5 (by decide) ?_
  refine x_istore dL_read_6 (by decide) ?_
  refine x_ls [(0, .ref x), (1, .int (nI j)), (2, .long (lN (vl (dgd (ρ (bi j 1))) 0))), (4, .long 0), (6, .int (nI (3 + 0)))] ⟨rfl, rfl, rfl, rfl, rfl, trivial⟩ ?_
  refine x_room (k := 8 * lc + (70 + 4)) (n := 64 * lc + (570 + 32)) (by omega) (by omega) ?_
  refine rd_1 hN hO hX hT (by omega) (fun i hi => ⟨sgV_of w1 hj (by omega) (by have := (D1 i (by omega)).2; omega) ((a4 i (by omega)).trans (D1 i (by omega)).1), (D1 i (by omega)).2⟩) (sgV_of w1 hj (by omega) (by split <;> omega) a5) (by split <;> omega) lc 0 C rfl h (fun C1 h => ?_)
  rw [D2]
  by_cases hc : 100 ≤ ρ (bi j 1)
  · rw [if_pos hc] at a5 hm1
    subst hm1
    rw [show 3 + (lc + 1) = 3 + lc + 1 by omega] at a6
    refine x_iload dL_read_51 rfl ?_
    refine x_aload_n dL_read_53 rfl ?_
    refine x_iload_n dL_read_54 rfl ?_
    refine x_iload dL_read_55 rfl ?_
    refine x_cX (c9 := 4) (s9 := 32) (As := [_, _, _]) hO dL_read_57 o_L_sign s_L_sign l_L_119 ⟨by decide, by decide⟩ ⟨rfl, rfl⟩ ⟨by omega, by omega⟩ rfl rfl (Nat.le_of_ble_eq_true rfl) (q_sign hN hO hX hT h (fun C1 h => ?_))
    dsimp only [Option.toList, List.cons_append, List.nil_append]
    rw [sgV_of w1 hj (by omega) (by decide) a5]
    refine x_ldc2 hO.1 dL_read_60 k_L_170 ?_
    refine x_lc_neN (tgt := 71) dL_read_63 dL_read_64 (by decide) rfl ?_
    refine x_iconst (v := nI 1) dL_read_67 (by decide) ?_
    refine x_goto (tgt := 72) dL_read_68 (by decide) ?_
    refine x_iadd dL_read_72 ?_
    rw [nI_add]
    refine x_istore dL_read_73 (by decide) ?_
    refine x_aload_n dL_read_75 rfl ?_
    refine x_iload_n dL_read_76 rfl ?_
    refine x_iconst (v := nI 0) dL_read_77 (by decide) ?_
    refine x_cX (c9 := 4) (s9 := 32) (As := [_, _, _]) hO dL_read_78 o_L_sign s_L_sign l_L_119 ⟨by decide, by decide⟩ ⟨rfl, rfl⟩ ⟨by omega, by omega⟩ rfl rfl (Nat.le_of_ble_eq_true rfl) (q_sign hN hO hX hT h (fun C1 h => ?_))
    dsimp only [Option.toList, List.cons_append, List.nil_append]
    rw [sgV_of w1 hj (by decide) (by decide) a1]
    refine x_ldc2 hO.1 dL_read_81 k_L_172 ?_
    refine x_lc_neN (tgt := 134) dL_read_84 dL_read_85 (by decide) rfl ?_
    refine x_aload_n dL_read_88 rfl ?_
    refine x_iload_n dL_read_89 rfl ?_
    refine x_iconst (v := nI 1) dL_read_90 (by decide) ?_
    refine x_cX (c9 := 4) (s9 := 32) (As := [_, _, _]) hO dL_read_91 o_L_sign s_L_sign l_L_119 ⟨by decide, by decide⟩ ⟨rfl, rfl⟩ ⟨by omega, by omega⟩ rfl rfl (Nat.le_of_ble_eq_true rfl) (q_sign hN hO hX hT h (fun C1 h => ?_))
    dsimp only [Option.toList, List.cons_append, List.nil_append]
    rw [sgV_of w1 hj (by decide) (by omega) a2]
    refine x_bipush (v := nI 48) dL_read_94 (by decide) ?_
    refine x_iload_n dL_read_96 rfl ?_
    refine x_iadd dL_read_97 ?_
    rw [nI_add]
    refine x_i2l dL_read_98 ?_
    rw [nI_l (by omega)]
    refine x_lc_neN (tgt := 134) dL_read_99 dL_read_100 (by decide) rfl ?_
    refine x_aload_n dL_read_103 rfl ?_
    refine x_iload_n dL_read_104 rfl ?_
    refine x_iconst (v := nI 2) dL_read_105 (by decide) ?_
    refine x_cX (c9 := 4) (s9 := 32) (As := [_, _, _]) hO dL_read_106 o_L_sign s_L_sign l_L_119 ⟨by decide, by decide⟩ ⟨rfl, rfl⟩ ⟨by omega, by omega⟩ rfl rfl (Nat.le_of_ble_eq_true rfl) (q_sign hN hO hX hT h (fun C1 h => ?_))
    dsimp only [Option.toList, List.cons_append, List.nil_append]
    rw [sgV_of w1 hj (by decide) (by decide) a3]
    refine x_ldc2 hO.1 dL_read_109 k_L_174 ?_
    refine x_lc_neN (tgt := 134) dL_read_112 dL_read_113 (by decide) rfl ?_
    refine x_aload_n dL_read_116 rfl ?_
    refine x_iload_n dL_read_117 rfl ?_
    refine x_iload dL_read_118 rfl ?_
    refine x_cX (c9 := 4) (s9 := 32) (As := [_, _, _]) hO dL_read_120 o_L_sign s_L_sign l_L_119 ⟨by decide, by decide⟩ ⟨rfl, rfl⟩ ⟨by omega, by omega⟩ rfl rfl (Nat.le_of_ble_eq_true rfl) (q_sign hN hO hX hT h (fun C1 h => ?_))
    dsimp only [Option.toList, List.cons_append, List.nil_append]
    rw [sgV_of w1 hj (by omega) (by decide) a6]
    refine x_ldc2 hO.1 dL_read_123 k_L_176 ?_
    refine x_lc_neN (tgt := 134) dL_read_126 dL_read_127 (by decide) rfl ?_
    refine x_iconst (v := nI 1) dL_read_130 (by decide) ?_
    refine x_goto (tgt := 135) dL_read_131 (by decide) ?_
    refine x_istore dL_read_135 (by decide) ?_
    refine x_iinc (v := nI 1) dL_read_137 rfl (by decide) (by decide) ?_
    refine x_ls [(0, .ref x), (1, .int (nI j)), (2, .long (lN (ρ (bi j 1)))), (4, .long (lN (vl (dgd (ρ (bi j 0))) 0))), (6, .int (nI (3 + (lc + (1 + 1)) + 0))), (7, .int (nI 1))] ⟨rfl, rfl, rfl, rfl, (by rw [show 3 + (lc + (1 + 1)) + 0 = 3 + lc + 1 + 1 by omega, ← nI_add]; rfl), rfl, trivial⟩ ?_
    refine x_room (k := 8 * lz + (16 + 4)) (n := 64 * lz + (128 + 32)) (by omega) (by omega) ?_
    exact fin _ h
  · rw [if_neg hc] at a5 hm1
    subst hm1
    rw [show 3 + (lc + 0) = 3 + lc + 0 by omega] at a6
    refine x_iload dL_read_51 rfl ?_
    refine x_aload_n dL_read_53 rfl ?_
    refine x_iload_n dL_read_54 rfl ?_
    refine x_iload dL_read_55 rfl ?_
    refine x_cX (c9 := 4) (s9 := 32) (As := [_, _, _]) hO dL_read_57 o_L_sign s_L_sign l_L_119 ⟨by decide, by decide⟩ ⟨rfl, rfl⟩ ⟨by omega, by omega⟩ rfl rfl (Nat.le_of_ble_eq_true rfl) (q_sign hN hO hX hT h (fun C1 h => ?_))
    dsimp only [Option.toList, List.cons_append, List.nil_append]
    rw [sgV_of w1 hj (by omega) (by decide) a5]
    refine x_ldc2 hO.1 dL_read_60 k_L_170 ?_
    refine x_lc_neT (tgt := 71) dL_read_63 dL_read_64 (by decide) (by decide) ?_
    refine x_iconst (v := nI 0) dL_read_71 (by decide) ?_
    refine x_iadd dL_read_72 ?_
    rw [nI_add]
    refine x_istore dL_read_73 (by decide) ?_
    refine x_aload_n dL_read_75 rfl ?_
    refine x_iload_n dL_read_76 rfl ?_
    refine x_iconst (v := nI 0) dL_read_77 (by decide) ?_
    refine x_cX (c9 := 4) (s9 := 32) (As := [_, _, _]) hO dL_read_78 o_L_sign s_L_sign l_L_119 ⟨by decide, by decide⟩ ⟨rfl, rfl⟩ ⟨by omega, by omega⟩ rfl rfl (Nat.le_of_ble_eq_true rfl) (q_sign hN hO hX hT h (fun C1 h => ?_))
    dsimp only [Option.toList, List.cons_append, List.nil_append]
    rw [sgV_of w1 hj (by decide) (by decide) a1]
    refine x_ldc2 hO.1 dL_read_81 k_L_172 ?_
    refine x_lc_neN (tgt := 134) dL_read_84 dL_read_85 (by decide) rfl ?_
    refine x_aload_n dL_read_88 rfl ?_
    refine x_iload_n dL_read_89 rfl ?_
    refine x_iconst (v := nI 1) dL_read_90 (by decide) ?_
    refine x_cX (c9 := 4) (s9 := 32) (As := [_, _, _]) hO dL_read_91 o_L_sign s_L_sign l_L_119 ⟨by decide, by decide⟩ ⟨rfl, rfl⟩ ⟨by omega, by omega⟩ rfl rfl (Nat.le_of_ble_eq_true rfl) (q_sign hN hO hX hT h (fun C1 h => ?_))
    dsimp only [Option.toList, List.cons_append, List.nil_append]
    rw [sgV_of w1 hj (by decide) (by omega) a2]
    refine x_bipush (v := nI 48) dL_read_94 (by decide) ?_
    refine x_iload_n dL_read_96 rfl ?_
    refine x_iadd dL_read_97 ?_
    rw [nI_add]
    refine x_i2l dL_read_98 ?_
    rw [nI_l (by omega)]
    refine x_lc_neN (tgt := 134) dL_read_99 dL_read_100 (by decide) rfl ?_
    refine x_aload_n dL_read_103 rfl ?_
    refine x_iload_n dL_read_104 rfl ?_
    refine x_iconst (v := nI 2) dL_read_105 (by decide) ?_
    refine x_cX (c9 := 4) (s9 := 32) (As := [_, _, _]) hO dL_read_106 o_L_sign s_L_sign l_L_119 ⟨by decide, by decide⟩ ⟨rfl, rfl⟩ ⟨by omega, by omega⟩ rfl rfl (Nat.le_of_ble_eq_true rfl) (q_sign hN hO hX hT h (fun C1 h => ?_))
    dsimp only [Option.toList, List.cons_append, List.nil_append]
    rw [sgV_of w1 hj (by decide) (by decide) a3]
    refine x_ldc2 hO.1 dL_read_109 k_L_174 ?_
    refine x_lc_neN (tgt := 134) dL_read_112 dL_read_113 (by decide) rfl ?_
    refine x_aload_n dL_read_116 rfl ?_
    refine x_iload_n dL_read_117 rfl ?_
    refine x_iload dL_read_118 rfl ?_
    refine x_cX (c9 := 4) (s9 := 32) (As := [_, _, _]) hO dL_read_120 o_L_sign s_L_sign l_L_119 ⟨by decide, by decide⟩ ⟨rfl, rfl⟩ ⟨by omega, by omega⟩ rfl rfl (Nat.le_of_ble_eq_true rfl) (q_sign hN hO hX hT h (fun C1 h => ?_))
    dsimp only [Option.toList, List.cons_append, List.nil_append]
    rw [sgV_of w1 hj (by omega) (by decide) a6]
    refine x_ldc2 hO.1 dL_read_123 k_L_176 ?_
    refine x_lc_neN (tgt := 134) dL_read_126 dL_read_127 (by decide) rfl ?_
    refine x_iconst (v := nI 1) dL_read_130 (by decide) ?_
    refine x_goto (tgt := 135) dL_read_131 (by decide) ?_
    refine x_istore dL_read_135 (by decide) ?_
    refine x_iinc (v := nI 1) dL_read_137 rfl (by decide) (by decide) ?_
    refine x_ls [(0, .ref x), (1, .int (nI j)), (2, .long (lN (ρ (bi j 1)))), (4, .long (lN (vl (dgd (ρ (bi j 0))) 0))), (6, .int (nI (3 + (lc + (0 + 1)) + 0))), (7, .int (nI 1))] ⟨rfl, rfl, rfl, rfl, (by rw [show 3 + (lc + (0 + 1)) + 0 = 3 + lc + 0 + 1 by omega, ← nI_add]; rfl), rfl, trivial⟩ ?_
    refine x_room (k := 8 * lz + (16 + 4)) (n := 64 * lz + (128 + 32)) (by omega) (by omega) ?_
    exact fin _ h

