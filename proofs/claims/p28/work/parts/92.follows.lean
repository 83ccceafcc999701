/-! the law: what would be is so when it is done -/
theorem fo_A {G : GT} {C : AH} {Q : QT} {C0 : AH} {sa va : Nat → Nat} {x T n m X k a k0 n0 : Nat} {S : Nat → Nat} {ρ : Rw} {L : List Rw} {K : Nat → Option Rw} (hN : GN G) (hO : GO G) (hX : GX G sa va) (hT : T ≤ 40000) (h1 : 1 ≤ m) (h2 : m ≤ 24) (hL : L.length < 14) (hk9 : k < ρ 1) (ha : ((a = 1 ∧ (∃ j, j < k ∧ ∃ i, i < m ∧ msd (runN i ρ) j)) ∨ (a = 0 ∧ ¬ (∃ j, j < k ∧ ∃ i, i < m ∧ msd (runN i ρ) j)))) (h : RF T C0 C x (S, n, ρ, L, K)) (kk0 : (∀ i, i < 72 → ¬ msd (runN i ρ) k) → ∀ (a9 : Nat) (C' : AH), ((a9 = 1 ∧ (∃ j, j < (k + 1) ∧ ∃ i, i < m ∧ msd (runN i ρ) j)) ∨ (a9 = 0 ∧ ¬ (∃ j, j < (k + 1) ∧ ∃ i, i < m ∧ msd (runN i ρ) j))) → RF T C0 C' x (S, n, ρ, L, K) → Ex G M_L_follows Q NX (k0) (n0) 311 [(0, .ref x), (1, .int (nI X)), (2, .long (nowV ρ)), (4, .long (lN (ρ 0))), (14, .int (nI (ρ 1))), (15, .int (nI m)), (16, .int (nI 1)), (21, .long (lN (runN m ρ 5 - ρ 5))), (25, .int (nI a9)), (26, .int (nI k)), (27, .long ((-1)))] [] C') (kk1 : ∀ i, i < 72 → msd (runN i ρ) k → ∀ (a9 : Nat) (C' : AH), ((a9 = 1 ∧ (∃ j, j < (k + 1) ∧ ∃ i, i < m ∧ msd (runN i ρ) j)) ∨ (a9 = 0 ∧ ¬ (∃ j, j < (k + 1) ∧ ∃ i, i < m ∧ msd (runN i ρ) j))) → RF T C0 C' x (S, n, ρ, L, K) → Ex G M_L_follows Q NX (k0) (n0) 311 [(0, .ref x), (1, .int (nI X)), (2, .long (nowV ρ)), (4, .long (lN (ρ 0))), (14, .int (nI (ρ 1))), (15, .int (nI m)), (16, .int (nI 1)), (21, .long (lN (runN m ρ 5 - ρ 5))), (25, .int (nI a9)), (26, .int (nI k)), (27, .long (lN (ρ 0 + i)))] [] C') : Ex G M_L_follows Q NX (1 + k0) (6 + n0) 270 [(0, .ref x), (1, .int (nI X)), (2, .long (nowV ρ)), (4, .long (lN (ρ 0))), (14, .int (nI (ρ 1))), (15, .int (nI m)), (16, .int (nI 1)), (21, .long (lN (runN m ρ 5 - ρ 5))), (25, .int (nI a)), (26, .int (nI k))] [] C := by
  have hk : Ok T ρ := h.1.1.1
  obtain ⟨hW, hB⟩ := id hk
  obtain ⟨w1, w2, w7, w8, w9, w10, w11, w11', w12, wB, wP⟩ := id hW
  have hB0 := hB.1
  rcases fm_spec (j := k) (m := 72) (ρ := ρ) with ⟨hfm, hno⟩ | ⟨i, hi, hmi, hbef, hfm⟩
  · have e1 : (∃ j, j < (k + 1) ∧ ∃ i, i < m ∧ msd (runN i ρ) j) ↔ (∃ j, j < k ∧ ∃ i, i < m ∧ msd (runN i ρ) j) := by
      refine ⟨fun ⟨j, hj, i, hi, q⟩ => ⟨j, ?_, i, hi, q⟩, fun ⟨j, hj, i, hi, q⟩ => ⟨j, by omega, i, hi, q⟩⟩
      by_cases z : j = k
      · subst z
        exact absurd q (hno i (by omega))
      · omega
    rcases ha with ⟨rfl, ha⟩ | ⟨rfl, ha⟩
    · skip
      refine x_aload_n dL_follows_270 rfl ?_
      refine x_iload dL_follows_271 rfl ?_
      refine x_cX (c9 := 1) (s9 := 6) (As := [_, _]) hO dL_follows_273 o_L_firstMissed s_L_firstMissed l_L_139 ⟨by decide, by decide⟩ ⟨rfl, rfl⟩ ⟨by omega, by omega⟩ rfl rfl (Nat.le_of_ble_eq_true rfl) (q_firI hN hO hX hT hk9 (r := (-1)) hfm h (fun C1 h => ?_))
      dsimp only [Option.toList, List.cons_append, List.nil_append]
      rw [show (-1 : Int32).toInt64 = -1 from by decide]
      refine x_lstore dL_follows_276 (by decide) ?_
      refine x_iload dL_follows_278 rfl ?_
      refine x_if_neT (tgt := 304) dL_follows_280 (by decide) (by decide) ?_
      refine x_iconst (v := nI 1) dL_follows_304 (by decide) ?_
      refine x_goto (tgt := 309) dL_follows_305 (by decide) ?_
      refine x_istore dL_follows_309 (by decide) ?_
      refine x_ls [(0, .ref x), (1, .int (nI X)), (2, .long (nowV ρ)), (4, .long (lN (ρ 0))), (14, .int (nI (ρ 1))), (15, .int (nI m)), (16, .int (nI 1)), (21, .long (lN (runN m ρ 5 - ρ 5))), (25, .int (nI 1)), (26, .int (nI k)), (27, .long ((-1)))] ⟨rfl, rfl, rfl, rfl, rfl, rfl, rfl, rfl, rfl, rfl, rfl, trivial⟩ ?_
      refine x_room (k := k0) (n := n0) (by omega) (by omega) ?_
      exact kk0 hno 1 _ (Or.inl ⟨rfl, e1.mpr ha⟩) h
    · skip
      refine x_aload_n dL_follows_270 rfl ?_
      refine x_iload dL_follows_271 rfl ?_
      refine x_cX (c9 := 1) (s9 := 6) (As := [_, _]) hO dL_follows_273 o_L_firstMissed s_L_firstMissed l_L_139 ⟨by decide, by decide⟩ ⟨rfl, rfl⟩ ⟨by omega, by omega⟩ rfl rfl (Nat.le_of_ble_eq_true rfl) (q_firI hN hO hX hT hk9 (r := (-1)) hfm h (fun C1 h => ?_))
      dsimp only [Option.toList, List.cons_append, List.nil_append]
      rw [show (-1 : Int32).toInt64 = -1 from by decide]
      refine x_lstore dL_follows_276 (by decide) ?_
      refine x_iload dL_follows_278 rfl ?_
      refine x_if_neN (tgt := 304) dL_follows_280 (by decide) rfl ?_
      refine x_lload dL_follows_283 rfl ?_
      refine x_ldc2 hO.1 dL_follows_285 k_L_178 ?_
      refine x_lc_eqT (tgt := 308) dL_follows_288 dL_follows_289 (by decide) rfl ?_
      refine x_iconst (v := nI 0) dL_follows_308 (by decide) ?_
      refine x_istore dL_follows_309 (by decide) ?_
      refine x_ls [(0, .ref x), (1, .int (nI X)), (2, .long (nowV ρ)), (4, .long (lN (ρ 0))), (14, .int (nI (ρ 1))), (15, .int (nI m)), (16, .int (nI 1)), (21, .long (lN (runN m ρ 5 - ρ 5))), (25, .int (nI 0)), (26, .int (nI k)), (27, .long ((-1)))] ⟨rfl, rfl, rfl, rfl, rfl, rfl, rfl, rfl, rfl, rfl, rfl, trivial⟩ ?_
      refine x_room (k := k0) (n := n0) (by omega) (by omega) ?_
      exact kk0 hno 0 _ (Or.inr ⟨rfl, fun q => ha (e1.mp q)⟩) h
  · rcases ha with ⟨rfl, ha⟩ | ⟨rfl, ha⟩
    · skip
      refine x_aload_n dL_follows_270 rfl ?_
      refine x_iload dL_follows_271 rfl ?_
      refine x_cX (c9 := 1) (s9 := 6) (As := [_, _]) hO dL_follows_273 o_L_firstMissed s_L_firstMissed l_L_139 ⟨by decide, by decide⟩ ⟨rfl, rfl⟩ ⟨by omega, by omega⟩ rfl rfl (Nat.le_of_ble_eq_true rfl) (q_firI hN hO hX hT hk9 (r := (nI (ρ 0 + i))) hfm h (fun C1 h => ?_))
      dsimp only [Option.toList, List.cons_append, List.nil_append]
      rw [nI_l (show ρ 0 + i < 2 ^ 31 by omega)]
      refine x_lstore dL_follows_276 (by decide) ?_
      refine x_iload dL_follows_278 rfl ?_
      refine x_if_neT (tgt := 304) dL_follows_280 (by decide) (by decide) ?_
      refine x_iconst (v := nI 1) dL_follows_304 (by decide) ?_
      refine x_goto (tgt := 309) dL_follows_305 (by decide) ?_
      refine x_istore dL_follows_309 (by decide) ?_
      refine x_ls [(0, .ref x), (1, .int (nI X)), (2, .long (nowV ρ)), (4, .long (lN (ρ 0))), (14, .int (nI (ρ 1))), (15, .int (nI m)), (16, .int (nI 1)), (21, .long (lN (runN m ρ 5 - ρ 5))), (25, .int (nI 1)), (26, .int (nI k)), (27, .long (lN (ρ 0 + i)))] ⟨rfl, rfl, rfl, rfl, rfl, rfl, rfl, rfl, rfl, rfl, rfl, trivial⟩ ?_
      refine x_room (k := k0) (n := n0) (by omega) (by omega) ?_
      exact kk1 i hi hmi 1 _ (Or.inl ⟨rfl, ha.elim fun j q => ⟨j, by omega, q.2⟩⟩) h
    · by_cases him : i < m
      · skip
        refine x_aload_n dL_follows_270 rfl ?_
        refine x_iload dL_follows_271 rfl ?_
        refine x_cX (c9 := 1) (s9 := 6) (As := [_, _]) hO dL_follows_273 o_L_firstMissed s_L_firstMissed l_L_139 ⟨by decide, by decide⟩ ⟨rfl, rfl⟩ ⟨by omega, by omega⟩ rfl rfl (Nat.le_of_ble_eq_true rfl) (q_firI hN hO hX hT hk9 (r := (nI (ρ 0 + i))) hfm h (fun C1 h => ?_))
        dsimp only [Option.toList, List.cons_append, List.nil_append]
        rw [nI_l (show ρ 0 + i < 2 ^ 31 by omega)]
        refine x_lstore dL_follows_276 (by decide) ?_
        refine x_iload dL_follows_278 rfl ?_
        refine x_if_neN (tgt := 304) dL_follows_280 (by decide) rfl ?_
        refine x_lload dL_follows_283 rfl ?_
        refine x_ldc2 hO.1 dL_follows_285 k_L_178 ?_
        refine x_lc_eqN (tgt := 308) dL_follows_288 dL_follows_289 (by decide) (lnN (by omega)) ?_
        refine x_lload dL_follows_292 rfl ?_
        refine x_lload dL_follows_294 rfl ?_
        refine x_iload dL_follows_296 rfl ?_
        refine x_i2l dL_follows_298 ?_
        rw [nI_l (show m < 2 ^ 31 by omega)]
        refine x_ladd dL_follows_299 ?_
        rw [lN_add (ρ 0) m]
        refine x_lc_geN (tgt := 308) dL_follows_300 dL_follows_301 (by decide) (fun q => by have := (pk_lLE (by omega) (by omega)).mp q; omega) ?_
        refine x_iconst (v := nI 1) dL_follows_304 (by decide) ?_
        refine x_goto (tgt := 309) dL_follows_305 (by decide) ?_
        refine x_istore dL_follows_309 (by decide) ?_
        refine x_ls [(0, .ref x), (1, .int (nI X)), (2, .long (nowV ρ)), (4, .long (lN (ρ 0))), (14, .int (nI (ρ 1))), (15, .int (nI m)), (16, .int (nI 1)), (21, .long (lN (runN m ρ 5 - ρ 5))), (25, .int (nI 1)), (26, .int (nI k)), (27, .long (lN (ρ 0 + i)))] ⟨rfl, rfl, rfl, rfl, rfl, rfl, rfl, rfl, rfl, rfl, rfl, trivial⟩ ?_
        refine x_room (k := k0) (n := n0) (by omega) (by omega) ?_
        exact kk1 i hi hmi 1 _ (Or.inl ⟨rfl, k, by omega, i, him, hmi⟩) h
      · skip
        refine x_aload_n dL_follows_270 rfl ?_
        refine x_iload dL_follows_271 rfl ?_
        refine x_cX (c9 := 1) (s9 := 6) (As := [_, _]) hO dL_follows_273 o_L_firstMissed s_L_firstMissed l_L_139 ⟨by decide, by decide⟩ ⟨rfl, rfl⟩ ⟨by omega, by omega⟩ rfl rfl (Nat.le_of_ble_eq_true rfl) (q_firI hN hO hX hT hk9 (r := (nI (ρ 0 + i))) hfm h (fun C1 h => ?_))
        dsimp only [Option.toList, List.cons_append, List.nil_append]
        rw [nI_l (show ρ 0 + i < 2 ^ 31 by omega)]
        refine x_lstore dL_follows_276 (by decide) ?_
        refine x_iload dL_follows_278 rfl ?_
        refine x_if_neN (tgt := 304) dL_follows_280 (by decide) rfl ?_
        refine x_lload dL_follows_283 rfl ?_
        refine x_ldc2 hO.1 dL_follows_285 k_L_178 ?_
        refine x_lc_eqN (tgt := 308) dL_follows_288 dL_follows_289 (by decide) (lnN (by omega)) ?_
        refine x_lload dL_follows_292 rfl ?_
        refine x_lload dL_follows_294 rfl ?_
        refine x_iload dL_follows_296 rfl ?_
        refine x_i2l dL_follows_298 ?_
        rw [nI_l (show m < 2 ^ 31 by omega)]
        refine x_ladd dL_follows_299 ?_
        rw [lN_add (ρ 0) m]
        refine x_lc_geT (tgt := 308) dL_follows_300 dL_follows_301 (by decide) ((pk_lLE (by omega) (by omega)).mpr (by omega)) ?_
        refine x_iconst (v := nI 0) dL_follows_308 (by decide) ?_
        refine x_istore dL_follows_309 (by decide) ?_
        refine x_ls [(0, .ref x), (1, .int (nI X)), (2, .long (nowV ρ)), (4, .long (lN (ρ 0))), (14, .int (nI (ρ 1))), (15, .int (nI m)), (16, .int (nI 1)), (21, .long (lN (runN m ρ 5 - ρ 5))), (25, .int (nI 0)), (26, .int (nI k)), (27, .long (lN (ρ 0 + i)))] ⟨rfl, rfl, rfl, rfl, rfl, rfl, rfl, rfl, rfl, rfl, rfl, trivial⟩ ?_
        refine x_room (k := k0) (n := n0) (by omega) (by omega) ?_
        refine kk1 i hi hmi 0 _ (Or.inr ⟨rfl, fun ⟨j, hj, i9, hi9, q⟩ => ?_⟩) h
        by_cases z : j = k
        · subst z
          exact hbef i9 (by omega) q
        · exact ha ⟨j, by omega, i9, hi9, q⟩

theorem fo_B0 {G : GT} {C : AH} {Q : QT} {C0 : AH} {sa va : Nat → Nat} {x T n m X k a k0 n0 : Nat} {S : Nat → Nat} {ρ : Rw} {L : List Rw} {K : Nat → Option Rw} (hN : GN G) (hO : GO G) (hX : GX G sa va) (hT : T ≤ 40000) (h1 : 1 ≤ m) (h2 : m ≤ 24) (hL : L.length < 14) (h : RF T C0 C x (S, n, ρ, L, K)) (kk : ∀ C' : AH, RF T C0 C' x (S, n, ρ, L, K) → Ex G M_L_follows Q NX (k0) (n0) 258 [(0, .ref x), (1, .int (nI X)), (2, .long (nowV ρ)), (4, .long (lN (ρ 0))), (14, .int (nI (ρ 1))), (15, .int (nI m)), (16, .int (nI 1)), (21, .long (lN (runN m ρ 5 - ρ 5))), (25, .int (nI a)), (26, .int (nI (k + 1)))] [] C') : Ex G M_L_follows Q NX (4 + k0) (24 + n0) 311 [(0, .ref x), (1, .int (nI X)), (2, .long (nowV ρ)), (4, .long (lN (ρ 0))), (14, .int (nI (ρ 1))), (15, .int (nI m)), (16, .int (nI 1)), (21, .long (lN (runN m ρ 5 - ρ 5))), (25, .int (nI a)), (26, .int (nI k)), (27, .long ((-1)))] [] C := by
  refine x_lload dL_follows_311 rfl ?_
  refine x_ldc2 hO.1 dL_follows_313 k_L_178 ?_
  refine x_lc_eqT (tgt := 389) dL_follows_316 dL_follows_317 (by decide) rfl ?_
  refine x_iconst (v := nI 1) dL_follows_389 (by decide) ?_
  refine x_goto (tgt := 394) dL_follows_390 (by decide) ?_
  refine x_istore dL_follows_394 (by decide) ?_
  refine x_iinc (v := nI 1) dL_follows_396 rfl (by decide) (by decide) ?_
  refine x_goto (tgt := 258) dL_follows_399 (by decide) ?_
  refine x_ls [(0, .ref x), (1, .int (nI X)), (2, .long (nowV ρ)), (4, .long (lN (ρ 0))), (14, .int (nI (ρ 1))), (15, .int (nI m)), (16, .int (nI 1)), (21, .long (lN (runN m ρ 5 - ρ 5))), (25, .int (nI a)), (26, .int (nI (k + 1)))] ⟨rfl, rfl, rfl, rfl, rfl, rfl, rfl, rfl, rfl, (by rw [← nI_add]; rfl), trivial⟩ ?_
  refine x_room (k := k0) (n := n0) (by omega) (by omega) ?_
  exact kk _ h
theorem fo_B1 {G : GT} {C : AH} {Q : QT} {C0 : AH} {sa va : Nat → Nat} {x T n m X k a i k0 n0 : Nat} {S : Nat → Nat} {ρ : Rw} {L : List Rw} {K : Nat → Option Rw} (hN : GN G) (hO : GO G) (hX : GX G sa va) (hT : T ≤ 40000) (h1 : 1 ≤ m) (h2 : m ≤ 24) (hL : L.length < 14) (hk9 : k < ρ 1) (hi : i < 72) (hmi : msd (runN i ρ) k) (h : RF T C0 C x (S, n, ρ, L, K)) (kk : ∀ C' : AH, RF T C0 C' x (S, n, ρ, L, K) → Ex G M_L_follows Q NX (k0) (n0) 258 [(0, .ref x), (1, .int (nI X)), (2, .long (nowV ρ)), (4, .long (lN (ρ 0))), (14, .int (nI (ρ 1))), (15, .int (nI m)), (16, .int (nI 1)), (21, .long (lN (runN m ρ 5 - ρ 5))), (25, .int (nI a)), (26, .int (nI (k + 1)))] [] C') : Ex G M_L_follows Q NX (4 + k0) (24 + n0) 311 [(0, .ref x), (1, .int (nI X)), (2, .long (nowV ρ)), (4, .long (lN (ρ 0))), (14, .int (nI (ρ 1))), (15, .int (nI m)), (16, .int (nI 1)), (21, .long (lN (runN m ρ 5 - ρ 5))), (25, .int (nI a)), (26, .int (nI k)), (27, .long (lN (ρ 0 + i)))] [] C := by
  have hk : Ok T ρ := h.1.1.1
  obtain ⟨hW, hB⟩ := id hk
  obtain ⟨w1, w2, w7, w8, w9, w10, w11, w11', w12, wB, wP⟩ := id hW
  have hB0 := hB.1
  have hl3 : ρ (bi k 3) = (ρ 0 + i) % 24 := by
    have q := hmi.1.2
    rw [runN_l3, runN_0] at q
    exact q
  have g6 := (wB k hk9).2.2.2.2.2.1
  have hne9 := (ran_5 (N := i + 1) hk).mpr ⟨i, Nat.lt_succ_self i, k, hk9, hmi⟩
  have up : ρ 5 ≤ runN (i + 1) ρ 5 := runN_up (k := 2) (by decide)
  have hb5 : runN (i + 1) ρ 5 < 2 ^ 31 := runN_b (k := 2) hk (by omega) (by decide)
  refine x_lload dL_follows_311 rfl ?_
  refine x_ldc2 hO.1 dL_follows_313 k_L_178 ?_
  refine x_lc_eqN (tgt := 389) dL_follows_316 dL_follows_317 (by decide) (lnN (by omega)) ?_
  refine x_lload dL_follows_320 rfl ?_
  refine x_lload dL_follows_322 rfl ?_
  refine x_lload dL_follows_324 rfl ?_
  refine x_ldc2 hO.1 dL_follows_326 k_L_199 ?_
  refine x_ladd dL_follows_329 ?_
  rw [show (71 : Int64) = lN 71 from rfl, lN_add (ρ 0) 71]
  refine x_cS (c9 := 0) (s9 := 0) (As := [_, _, _]) hO dL_follows_330 o_L_in s_L_in l_L_164 ⟨by decide, by decide⟩ ⟨rfl, rfl⟩ ⟨by omega, by omega⟩ rfl rfl (Nat.le_of_ble_eq_true rfl) (m_in (fun r hr => ?_))
  dsimp only [Option.toList, List.cons_append, List.nil_append]
  refine x_if_eqN (tgt := 393) dL_follows_333 (by decide) (by rw [hr]; exact in_ok (a := ρ 0) (v := ρ 0 + i) (b := ρ 0 + 71) (by omega) (by omega) (by omega)) ?_
  refine x_aload_n dL_follows_336 rfl ?_
  refine x_lload dL_follows_337 rfl ?_
  refine x_lload dL_follows_339 rfl ?_
  refine x_lsub dL_follows_341 ?_
  rw [lN_sub (show ρ 0 ≤ ρ 0 + i by omega), show ρ 0 + i - ρ 0 = i by omega]
  refine x_l2i dL_follows_342 ?_
  rw [lN_i]
  refine x_iconst (v := nI 1) dL_follows_343 (by decide) ?_
  refine x_iadd dL_follows_344 ?_
  rw [nI_add]
  refine x_iconst (v := nI 2) dL_follows_345 (by decide) ?_
  refine x_cX (c9 := 2) (s9 := 12) (As := [_, _, _]) hO dL_follows_346 o_L_coming s_L_coming l_L_137 ⟨by decide, by decide⟩ ⟨rfl, rfl⟩ ⟨by omega, by omega⟩ rfl rfl (Nat.le_of_ble_eq_true rfl) (q_comN hN hO hX hT (by omega) (by omega) (by decide) (m := i + 1) (k := 2) (z := runN (i + 1) ρ 5 - ρ 5) rfl h (fun C1 h => ?_))
  dsimp only [Option.toList, List.cons_append, List.nil_append]
  refine x_lconst (v := 0) dL_follows_349 (by decide) ?_
  refine x_lc_leN (tgt := 393) dL_follows_350 dL_follows_351 (by decide) (fun q => absurd ((pk_lLE (b := 0) (by omega) (by decide)).mp q) (by omega)) ?_
  refine x_lload dL_follows_354 rfl ?_
  refine x_lload dL_follows_356 rfl ?_
  refine x_lsub dL_follows_358 ?_
  rw [lN_sub (show ρ 0 ≤ ρ 0 + i by omega), show ρ 0 + i - ρ 0 = i by omega]
  refine x_ldc2 hO.1 dL_follows_359 k_L_192 ?_
  refine x_lrem dL_follows_362 (by decide) ?_
  rw [lrem24 (show i < 2 ^ 63 by omega)]
  refine x_aload_n dL_follows_363 rfl ?_
  refine x_iload dL_follows_364 rfl ?_
  refine x_iconst (v := nI 3) dL_follows_366 (by decide) ?_
  refine x_cX (c9 := 2) (s9 := 12) (As := [_, _, _]) hO dL_follows_367 o_L_bus s_L_bus l_L_110 ⟨by decide, by decide⟩ ⟨rfl, rfl⟩ ⟨by omega, by omega⟩ rfl rfl (Nat.le_of_ble_eq_true rfl) (q_busN hN hO hX hT hk9 (by decide) (by decide) (z := ρ (bi k 3)) rfl h (fun C1 h => ?_))
  dsimp only [Option.toList, List.cons_append, List.nil_append]
  refine x_ldc2 hO.1 dL_follows_370 k_L_192 ?_
  refine x_ladd dL_follows_373 ?_
  rw [show (24 : Int64) = lN 24 from rfl, lN_add (ρ (bi k 3)) 24]
  refine x_lload dL_follows_374 rfl ?_
  refine x_ldc2 hO.1 dL_follows_376 k_L_192 ?_
  refine x_lrem dL_follows_379 (by decide) ?_
  rw [lrem24 (show ρ 0 < 2 ^ 63 by omega)]
  refine x_lsub dL_follows_380 ?_
  rw [lN_sub (show ρ 0 % 24 ≤ ρ (bi k 3) + 24 by omega)]
  refine x_ldc2 hO.1 dL_follows_381 k_L_192 ?_
  refine x_lrem dL_follows_384 (by decide) ?_
  rw [lrem24 (show ρ (bi k 3) + 24 - ρ 0 % 24 < 2 ^ 63 by omega)]
  refine x_lc_neN (tgt := 393) dL_follows_385 dL_follows_386 (by decide) (congrArg lN (by omega)) ?_
  refine x_iconst (v := nI 1) dL_follows_389 (by decide) ?_
  refine x_goto (tgt := 394) dL_follows_390 (by decide) ?_
  refine x_istore dL_follows_394 (by decide) ?_
  refine x_iinc (v := nI 1) dL_follows_396 rfl (by decide) (by decide) ?_
  refine x_goto (tgt := 258) dL_follows_399 (by decide) ?_
  refine x_ls [(0, .ref x), (1, .int (nI X)), (2, .long (nowV ρ)), (4, .long (lN (ρ 0))), (14, .int (nI (ρ 1))), (15, .int (nI m)), (16, .int (nI 1)), (21, .long (lN (runN m ρ 5 - ρ 5))), (25, .int (nI a)), (26, .int (nI (k + 1)))] ⟨rfl, rfl, rfl, rfl, rfl, rfl, rfl, rfl, rfl, (by rw [← nI_add]; rfl), trivial⟩ ?_
  refine x_room (k := k0) (n := n0) (by omega) (by omega) ?_
  exact kk _ h

theorem fo_2 {G : GT} {Q : QT} {C0 : AH} {sa va : Nat → Nat} {x T n m X k0 n0 : Nat} {S : Nat → Nat} {ρ : Rw} {L : List Rw} {K : Nat → Option Rw} (hN : GN G) (hO : GO G) (hX : GX G sa va) (hT : T ≤ 40000) (h1 : 1 ≤ m) (h2 : m ≤ 24) (hL : L.length < 14) (w1 : ρ 1 ≤ 8) : ∀ (d k a : Nat) (C : AH), d + k = ρ 1 → ((a = 1 ∧ (∃ j, j < k ∧ ∃ i, i < m ∧ msd (runN i ρ) j)) ∨ (a = 0 ∧ ¬ (∃ j, j < k ∧ ∃ i, i < m ∧ msd (runN i ρ) j))) → RF T C0 C x (S, n, ρ, L, K) → (∀ (a9 : Nat) (C' : AH), ((a9 = 1 ∧ (∃ j, j < (ρ 1) ∧ ∃ i, i < m ∧ msd (runN i ρ) j)) ∨ (a9 = 0 ∧ ¬ (∃ j, j < (ρ 1) ∧ ∃ i, i < m ∧ msd (runN i ρ) j))) → RF T C0 C' x (S, n, ρ, L, K) → Ex G M_L_follows Q NX (k0) (n0) 402 [(0, .ref x), (1, .int (nI X)), (2, .long (nowV ρ)), (4, .long (lN (ρ 0))), (14, .int (nI (ρ 1))), (15, .int (nI m)), (16, .int (nI 1)), (21, .long (lN (runN m ρ 5 - ρ 5))), (25, .int (nI a9))] [] C') → Ex G M_L_follows Q NX (5 * d + k0) (30 * d + n0) 258 [(0, .ref x), (1, .int (nI X)), (2, .long (nowV ρ)), (4, .long (lN (ρ 0))), (14, .int (nI (ρ 1))), (15, .int (nI m)), (16, .int (nI 1)), (21, .long (lN (runN m ρ 5 - ρ 5))), (25, .int (nI a)), (26, .int (nI k))] [] C := by
  intro d
  induction d with
  | zero =>
    intro k a C hi ha h kk
    have hi9 : k = ρ 1 := by omega
    subst hi9
    refine x_iload dL_follows_258 rfl ?_
    refine x_iload dL_follows_260 rfl ?_
    refine x_icmp_geT (tgt := 402) dL_follows_262 (by decide) (nI_le (by omega) (by omega)) ?_
    refine x_ls [(0, .ref x), (1, .int (nI X)), (2, .long (nowV ρ)), (4, .long (lN (ρ 0))), (14, .int (nI (ρ 1))), (15, .int (nI m)), (16, .int (nI 1)), (21, .long (lN (runN m ρ 5 - ρ 5))), (25, .int (nI a))] ⟨rfl, rfl, rfl, rfl, rfl, rfl, rfl, rfl, rfl, trivial⟩ ?_
    refine x_room (k := k0) (n := n0) (by omega) (by omega) ?_
    exact kk a C ha h
  | succ d ih =>
    intro k a C hi ha h kk
    have hk9 : k < ρ 1 := by omega
    refine x_iload dL_follows_258 rfl ?_
    refine x_iload dL_follows_260 rfl ?_
    refine x_icmp_geN (tgt := 402) dL_follows_262 (by decide) (nI_ge (by omega) (by omega)) ?_
    refine x_iload dL_follows_265 rfl ?_
    refine x_if_eqN (tgt := 402) dL_follows_267 (by decide) (by decide) ?_
    refine x_ls [(0, .ref x), (1, .int (nI X)), (2, .long (nowV ρ)), (4, .long (lN (ρ 0))), (14, .int (nI (ρ 1))), (15, .int (nI m)), (16, .int (nI 1)), (21, .long (lN (runN m ρ 5 - ρ 5))), (25, .int (nI a)), (26, .int (nI k))] ⟨rfl, rfl, rfl, rfl, rfl, rfl, rfl, rfl, rfl, rfl, trivial⟩ ?_
    refine x_room (k := 1 + (4 + (5 * d + k0))) (n := 6 + (24 + (30 * d + n0))) (by omega) (by omega) ?_
    refine fo_A hN hO hX hT h1 h2 hL hk9 ha h (fun hno a9 C1 ha9 h => ?_) (fun i hi hmi a9 C1 ha9 h => ?_)
    · exact fo_B0 hN hO hX hT h1 h2 hL h (fun C2 h => ih (k + 1) a9 C2 (by omega) ha9 h kk)
    · exact fo_B1 hN hO hX hT h1 h2 hL hk9 hi hmi h (fun C2 h => ih (k + 1) a9 C2 (by omega) ha9 h kk)

theorem fo_3 {G : GT} {C : AH} {Q : QT} {C0 : AH} {sa va : Nat → Nat} {x T n m X a k0 n0 : Nat} {S : Nat → Nat} {ρ : Rw} {L : List Rw} {K : Nat → Option Rw} (hN : GN G) (hO : GO G) (hX : GX G sa va) (hT : T ≤ 40000) (h1 : 1 ≤ m) (h2 : m ≤ 24) (hL : L.length < 14) (ha : ((a = 1 ∧ (∃ j, j < (ρ 1) ∧ ∃ i, i < m ∧ msd (runN i ρ) j)) ∨ (a = 0 ∧ ¬ (∃ j, j < (ρ 1) ∧ ∃ i, i < m ∧ msd (runN i ρ) j)))) (h : RF T C0 C x (S, n, ρ, L, K)) (kk : ∀ C' : AH, RF T C0 C' x (S, n, ρ, L, K) → Ex G M_L_follows Q NX (k0) (n0) 431 [(0, .ref x), (1, .int (nI X)), (2, .long (nowV ρ)), (4, .long (lN (ρ 0))), (14, .int (nI (ρ 1))), (15, .int (nI m)), (16, .int (nI 1)), (21, .long (lN (runN m ρ 5 - ρ 5)))] [] C') : Ex G M_L_follows Q NX (0 + k0) (0 + n0) 402 [(0, .ref x), (1, .int (nI X)), (2, .long (nowV ρ)), (4, .long (lN (ρ 0))), (14, .int (nI (ρ 1))), (15, .int (nI m)), (16, .int (nI 1)), (21, .long (lN (runN m ρ 5 - ρ 5))), (25, .int (nI a))] [] C := by
  have hk : Ok T ρ := h.1.1.1
  obtain ⟨hW, hB⟩ := id hk
  obtain ⟨w1, w2, w7, w8, w9, w10, w11, w11', w12, wB, wP⟩ := id hW
  have up : ρ 5 ≤ runN m ρ 5 := runN_up (k := 2) (by decide)
  have hb5 : runN m ρ 5 < 2 ^ 31 := runN_b (k := 2) hk (by omega) (by decide)
  have key := ran_5 (N := m) hk
  have e1 : (∃ j, j < (ρ 1) ∧ ∃ i, i < m ∧ msd (runN i ρ) j) ↔ runN m ρ 5 ≠ ρ 5 := ⟨fun ⟨j, hj, i, hi, q⟩ => key.mpr ⟨i, hi, j, hj, q⟩, fun q => (key.mp q).elim fun i r => r.2.elim fun j r2 => ⟨j, r2.1, i, r.1, r2.2⟩⟩
  rcases ha with ⟨rfl, ha⟩ | ⟨rfl, ha⟩
  · have hne9 := e1.mp ha
    refine x_ls [(0, .ref x), (1, .int (nI X)), (2, .long (nowV ρ)), (4, .long (lN (ρ 0))), (14, .int (nI (ρ 1))), (15, .int (nI m)), (16, .int (nI 1)), (21, .long (lN (runN m ρ 5 - ρ 5))), (25, .int (nI 1))] ⟨rfl, rfl, rfl, rfl, rfl, rfl, rfl, rfl, rfl, trivial⟩ ?_
    refine x_iload dL_follows_402 rfl ?_
    refine x_if_eqN (tgt := 428) dL_follows_404 (by decide) (by decide) ?_
    refine x_iload dL_follows_407 rfl ?_
    refine x_lload dL_follows_409 rfl ?_
    refine x_lconst (v := 0) dL_follows_411 (by decide) ?_
    refine x_lc_leN (tgt := 420) dL_follows_412 dL_follows_413 (by decide) (fun q => absurd ((pk_lLE (b := 0) (by omega) (by decide)).mp q) (by omega)) ?_
    refine x_iconst (v := nI 1) dL_follows_416 (by decide) ?_
    refine x_goto (tgt := 421) dL_follows_417 (by decide) ?_
    refine x_icmp_neN (tgt := 428) dL_follows_421 (by decide) rfl ?_
    refine x_iconst (v := nI 1) dL_follows_424 (by decide) ?_
    refine x_goto (tgt := 429) dL_follows_425 (by decide) ?_
    refine x_istore dL_follows_429 (by decide) ?_
    refine x_ls [(0, .ref x), (1, .int (nI X)), (2, .long (nowV ρ)), (4, .long (lN (ρ 0))), (14, .int (nI (ρ 1))), (15, .int (nI m)), (16, .int (nI 1)), (21, .long (lN (runN m ρ 5 - ρ 5)))] ⟨rfl, rfl, rfl, rfl, rfl, rfl, rfl, rfl, trivial⟩ ?_
    refine x_room (k := k0) (n := n0) (by omega) (by omega) ?_
    exact kk _ h
  · have heq9 : runN m ρ 5 = ρ 5 := Classical.byContradiction fun q => ha (e1.mpr q)
    refine x_ls [(0, .ref x), (1, .int (nI X)), (2, .long (nowV ρ)), (4, .long (lN (ρ 0))), (14, .int (nI (ρ 1))), (15, .int (nI m)), (16, .int (nI 1)), (21, .long (lN (runN m ρ 5 - ρ 5))), (25, .int (nI 0))] ⟨rfl, rfl, rfl, rfl, rfl, rfl, rfl, rfl, rfl, trivial⟩ ?_
    refine x_iload dL_follows_402 rfl ?_
    refine x_if_eqN (tgt := 428) dL_follows_404 (by decide) (by decide) ?_
    refine x_iload dL_follows_407 rfl ?_
    refine x_lload dL_follows_409 rfl ?_
    refine x_lconst (v := 0) dL_follows_411 (by decide) ?_
    refine x_lc_leT (tgt := 420) dL_follows_412 dL_follows_413 (by decide) ((pk_lLE (b := 0) (by omega) (by decide)).mpr (by omega)) ?_
    refine x_iconst (v := nI 0) dL_follows_420 (by decide) ?_
    refine x_icmp_neN (tgt := 428) dL_follows_421 (by decide) rfl ?_
    refine x_iconst (v := nI 1) dL_follows_424 (by decide) ?_
    refine x_goto (tgt := 429) dL_follows_425 (by decide) ?_
    refine x_istore dL_follows_429 (by decide) ?_
    refine x_ls [(0, .ref x), (1, .int (nI X)), (2, .long (nowV ρ)), (4, .long (lN (ρ 0))), (14, .int (nI (ρ 1))), (15, .int (nI m)), (16, .int (nI 1)), (21, .long (lN (runN m ρ 5 - ρ 5)))] ⟨rfl, rfl, rfl, rfl, rfl, rfl, rfl, rfl, trivial⟩ ?_
    refine x_room (k := k0) (n := n0) (by omega) (by omega) ?_
    exact kk _ h

theorem fo_4 {G : GT} {C : AH} {Q : QT} {C0 : AH} {sa va : Nat → Nat} {x T n m X k0 n0 : Nat} {S : Nat → Nat} {ρ : Rw} {L : List Rw} {K : Nat → Option Rw} (hN : GN G) (hO : GO G) (hX : GX G sa va) (hT : T ≤ 40000) (h1 : 1 ≤ m) (h2 : m ≤ 24) (hL : L.length < 14) (h : RF T C0 C x (S, n, ρ, L, K)) (kk : ∀ C' : AH, RF T C0 C' x (S, n, ρ, L, K) → Ex G M_L_follows Q NX (k0) (n0) 599 [(0, .ref x), (1, .int (nI X)), (2, .long (nowV ρ)), (4, .long (lN (ρ 0))), (14, .int (nI (ρ 1))), (15, .int (nI m)), (16, .int (nI 1)), (21, .long (lN (runN m ρ 5 - ρ 5)))] [] C') : Ex G M_L_follows Q NX (240 + k0) (1500 + n0) 431 [(0, .ref x), (1, .int (nI X)), (2, .long (nowV ρ)), (4, .long (lN (ρ 0))), (14, .int (nI (ρ 1))), (15, .int (nI m)), (16, .int (nI 1)), (21, .long (lN (runN m ρ 5 - ρ 5)))] [] C := by
  have hk : Ok T ρ := h.1.1.1
  obtain ⟨hW, hB⟩ := id hk
  obtain ⟨w1, w2, w7, w8, w9, w10, w11, w11', w12, wB, wP⟩ := id hW
  rcases ll_spec (ρ := ρ) (m := m) (f := 26) (i := 0) with ⟨hll, hno⟩ | ⟨i, hi, hwd, hbef, hll⟩
  · skip
    have hksA := Ok_stS (k := 0) (v := 250) hk ⟨by decide, Nat.zero_le _, by show 250 ≤ 250; omega⟩
    have upsA : ρ 5 ≤ runN m (stS ρ 0 (250)) 5 := runN_up (ρ := stS ρ 0 (250)) (k := 2) (by decide)
    have bsA : runN m (stS ρ 0 (250)) 5 < 2 ^ 31 := runN_b (k := 2) hksA (by omega) (by decide)
    have hw := hno 25 (by decide)
    have hw : ¬ runN m (stS ρ 0 250) 5 = ρ 5 := hw
    refine x_aload_n dL_follows_431 rfl ?_
    refine x_iload dL_follows_432 rfl ?_
    refine x_cX (c9 := 1) (s9 := 6) (As := [_, _]) hO dL_follows_434 o_L_leastLimit s_L_leastLimit l_L_141 ⟨by decide, by decide⟩ ⟨rfl, rfl⟩ ⟨by omega, by omega⟩ rfl rfl (Nat.le_of_ble_eq_true rfl) (q_leaI hN hO hX hT h1 (by omega) (r := -1) hll h (fun C1 h => ?_))
    dsimp only [Option.toList, List.cons_append, List.nil_append]
    rw [show (-1 : Int32).toInt64 = -1 from by decide]
    refine x_l2i dL_follows_437 ?_
    rw [show (-1 : Int64).toInt32 = -1 from by decide]
    refine x_istore dL_follows_438 (by decide) ?_
    refine x_iload dL_follows_440 rfl ?_
    refine x_iconst (v := (-1)) dL_follows_442 (by decide) ?_
    refine x_icmp_eqT (tgt := 544) dL_follows_443 (by decide) rfl ?_
    refine x_iload dL_follows_544 rfl ?_
    refine x_if_eqN (tgt := 596) dL_follows_546 (by decide) (by decide) ?_
    refine x_aload_n dL_follows_549 rfl ?_
    refine x_iconst (v := nI 0) dL_follows_550 (by decide) ?_
    refine x_sipush (v := nI 250) dL_follows_551 (by decide) ?_
    refine x_cX (c9 := 1) (s9 := 6) (As := [_, _, _]) hO dL_follows_554 o_L_set s_L_set l_L_135 ⟨by decide, by decide⟩ ⟨rfl, rfl⟩ ⟨by omega, by omega⟩ rfl rfl (Nat.le_of_ble_eq_true rfl) (y_set hN hO hX hT (k := 0) (v := 250) ⟨by decide, Nat.zero_le _, by show 250 ≤ 250; omega⟩ h (fun C1 h => ?_))
    dsimp only [Option.toList, List.cons_append, List.nil_append]
    refine x_lconst (v := 0) dL_follows_557 (by decide) ?_
    refine x_lc_ltN (tgt := 596) dL_follows_558 dL_follows_559 (by decide) (lnn (by have := set_b (k := 0) hW (by decide); omega)) ?_
    refine x_aload_n dL_follows_562 rfl ?_
    refine x_iload dL_follows_563 rfl ?_
    refine x_iconst (v := nI 2) dL_follows_565 (by decide) ?_
    refine x_cX (c9 := 2) (s9 := 12) (As := [_, _, _]) hO dL_follows_566 o_L_coming s_L_coming l_L_137 ⟨by decide, by decide⟩ ⟨rfl, rfl⟩ ⟨by omega, by omega⟩ rfl rfl (Nat.le_of_ble_eq_true rfl) (q_comN hN hO hX hT h1 (by omega) (by decide) (k := 2) (z := runN m (stS ρ 0 (250)) 5 - ρ 5) rfl h (fun C1 h => ?_))
    dsimp only [Option.toList, List.cons_append, List.nil_append]
    refine x_lconst (v := 0) dL_follows_569 (by decide) ?_
    refine x_lc_leN (tgt := 596) dL_follows_570 dL_follows_571 (by decide) (fun q => absurd ((pk_lLE (b := 0) (by omega) (by decide)).mp q) (by omega)) ?_
    refine x_aload_n dL_follows_574 rfl ?_
    refine x_cX (c9 := 1) (s9 := 6) (As := [_]) hO dL_follows_575 o_L_undo s_L_undo l_L_197 ⟨by decide, by decide⟩ ⟨rfl, rfl⟩ ⟨by omega, by omega⟩ rfl rfl (Nat.le_of_ble_eq_true rfl) (y_undoS hN hO hX hT hL h (fun j9 C1 hj h => ?_))
    dsimp only [Option.toList, List.cons_append, List.nil_append]
    refine x_lconst (v := 0) dL_follows_578 (by decide) ?_
    refine x_lc_ltN (tgt := 596) dL_follows_579 dL_follows_580 (by decide) (lnn (by omega)) ?_
    refine x_aload_n dL_follows_583 rfl ?_
    refine x_cS (c9 := 220) (s9 := 1320) (As := [_]) hO dL_follows_584 o_L_now s_L_now l_L_115 ⟨by decide, by decide⟩ ⟨rfl, rfl⟩ ⟨by omega, by omega⟩ rfl rfl (Nat.le_of_ble_eq_true rfl) (m_now hN hO hX hT h (fun C1 h => ?_))
    dsimp only [Option.toList, List.cons_append, List.nil_append]
    refine x_lload_n dL_follows_587 rfl ?_
    refine x_lc_neN (tgt := 596) dL_follows_588 dL_follows_589 (by decide) rfl ?_
    refine x_iconst (v := nI 1) dL_follows_592 (by decide) ?_
    refine x_goto (tgt := 597) dL_follows_593 (by decide) ?_
    refine x_istore dL_follows_597 (by decide) ?_
    refine x_ls [(0, .ref x), (1, .int (nI X)), (2, .long (nowV ρ)), (4, .long (lN (ρ 0))), (14, .int (nI (ρ 1))), (15, .int (nI m)), (16, .int (nI 1)), (21, .long (lN (runN m ρ 5 - ρ 5)))] ⟨rfl, rfl, rfl, rfl, rfl, rfl, rfl, rfl, trivial⟩ ?_
    refine x_room (k := k0) (n := n0) (by omega) (by omega) ?_
    exact kk _ h
  · rw [Nat.zero_add] at hwd hll
    have hwd : runN m (stS ρ 0 (10 * i)) 5 = ρ 5 := hwd
    by_cases z : i = 0
    · skip
      have hksA := Ok_stS (k := 0) (v := 10 * i) hk ⟨by decide, Nat.zero_le _, by show 10 * i ≤ 250; omega⟩
      have upsA : ρ 5 ≤ runN m (stS ρ 0 (10 * i)) 5 := runN_up (ρ := stS ρ 0 (10 * i)) (k := 2) (by decide)
      have bsA : runN m (stS ρ 0 (10 * i)) 5 < 2 ^ 31 := runN_b (k := 2) hksA (by omega) (by decide)
      refine x_aload_n dL_follows_431 rfl ?_
      refine x_iload dL_follows_432 rfl ?_
      refine x_cX (c9 := 1) (s9 := 6) (As := [_, _]) hO dL_follows_434 o_L_leastLimit s_L_leastLimit l_L_141 ⟨by decide, by decide⟩ ⟨rfl, rfl⟩ ⟨by omega, by omega⟩ rfl rfl (Nat.le_of_ble_eq_true rfl) (q_leaI hN hO hX hT h1 (by omega) (r := nI (10 * i)) hll h (fun C1 h => ?_))
      dsimp only [Option.toList, List.cons_append, List.nil_append]
      rw [nI_l (show 10 * i < 2 ^ 31 by omega)]
      refine x_l2i dL_follows_437 ?_
      rw [lN_i]
      refine x_istore dL_follows_438 (by decide) ?_
      refine x_iload dL_follows_440 rfl ?_
      refine x_iconst (v := (-1)) dL_follows_442 (by decide) ?_
      refine x_icmp_eqN (tgt := 544) dL_follows_443 (by decide) (nI_m1 (by omega)) ?_
      refine x_iload dL_follows_446 rfl ?_
      refine x_if_eqN (tgt := 544) dL_follows_448 (by decide) (by decide) ?_
      refine x_aload_n dL_follows_451 rfl ?_
      refine x_iconst (v := nI 0) dL_follows_452 (by decide) ?_
      refine x_iload dL_follows_453 rfl ?_
      refine x_cX (c9 := 1) (s9 := 6) (As := [_, _, _]) hO dL_follows_455 o_L_set s_L_set l_L_135 ⟨by decide, by decide⟩ ⟨rfl, rfl⟩ ⟨by omega, by omega⟩ rfl rfl (Nat.le_of_ble_eq_true rfl) (y_set hN hO hX hT (k := 0) (v := 10 * i) ⟨by decide, Nat.zero_le _, by show 10 * i ≤ 250; omega⟩ h (fun C1 h => ?_))
      dsimp only [Option.toList, List.cons_append, List.nil_append]
      refine x_lconst (v := 0) dL_follows_458 (by decide) ?_
      refine x_lc_ltN (tgt := 538) dL_follows_459 dL_follows_460 (by decide) (lnn (by have := set_b (k := 0) hW (by decide); omega)) ?_
      refine x_aload_n dL_follows_463 rfl ?_
      refine x_iload dL_follows_464 rfl ?_
      refine x_iconst (v := nI 2) dL_follows_466 (by decide) ?_
      refine x_cX (c9 := 2) (s9 := 12) (As := [_, _, _]) hO dL_follows_467 o_L_coming s_L_coming l_L_137 ⟨by decide, by decide⟩ ⟨rfl, rfl⟩ ⟨by omega, by omega⟩ rfl rfl (Nat.le_of_ble_eq_true rfl) (q_comN hN hO hX hT h1 (by omega) (by decide) (k := 2) (z := runN m (stS ρ 0 (10 * i)) 5 - ρ 5) rfl h (fun C1 h => ?_))
      dsimp only [Option.toList, List.cons_append, List.nil_append]
      refine x_lconst (v := 0) dL_follows_470 (by decide) ?_
      refine x_lc_neN (tgt := 538) dL_follows_471 dL_follows_472 (by decide) (congrArg lN (show runN m (stS ρ 0 (10 * i)) 5 - ρ 5 = 0 by omega)) ?_
      refine x_aload_n dL_follows_475 rfl ?_
      refine x_cX (c9 := 1) (s9 := 6) (As := [_]) hO dL_follows_476 o_L_undo s_L_undo l_L_197 ⟨by decide, by decide⟩ ⟨rfl, rfl⟩ ⟨by omega, by omega⟩ rfl rfl (Nat.le_of_ble_eq_true rfl) (y_undoS hN hO hX hT hL h (fun j9 C1 hj h => ?_))
      dsimp only [Option.toList, List.cons_append, List.nil_append]
      refine x_lconst (v := 0) dL_follows_479 (by decide) ?_
      refine x_lc_ltN (tgt := 538) dL_follows_480 dL_follows_481 (by decide) (lnn (by omega)) ?_
      refine x_iload dL_follows_484 rfl ?_
      refine x_if_eqT (tgt := 525) dL_follows_486 (by decide) (congrArg nI (show 10 * i = 0 by omega)) ?_
      refine x_aload_n dL_follows_525 rfl ?_
      refine x_cS (c9 := 220) (s9 := 1320) (As := [_]) hO dL_follows_526 o_L_now s_L_now l_L_115 ⟨by decide, by decide⟩ ⟨rfl, rfl⟩ ⟨by omega, by omega⟩ rfl rfl (Nat.le_of_ble_eq_true rfl) (m_now hN hO hX hT h (fun C1 h => ?_))
      dsimp only [Option.toList, List.cons_append, List.nil_append]
      refine x_lload_n dL_follows_529 rfl ?_
      refine x_lc_neN (tgt := 538) dL_follows_530 dL_follows_531 (by decide) rfl ?_
      refine x_iconst (v := nI 1) dL_follows_534 (by decide) ?_
      refine x_goto (tgt := 539) dL_follows_535 (by decide) ?_
      refine x_istore dL_follows_539 (by decide) ?_
      refine x_goto (tgt := 599) dL_follows_541 (by decide) ?_
      refine x_ls [(0, .ref x), (1, .int (nI X)), (2, .long (nowV ρ)), (4, .long (lN (ρ 0))), (14, .int (nI (ρ 1))), (15, .int (nI m)), (16, .int (nI 1)), (21, .long (lN (runN m ρ 5 - ρ 5)))] ⟨rfl, rfl, rfl, rfl, rfl, rfl, rfl, rfl, trivial⟩ ?_
      refine x_room (k := k0) (n := n0) (by omega) (by omega) ?_
      exact kk _ h
    · skip
      have hksA := Ok_stS (k := 0) (v := 10 * i) hk ⟨by decide, Nat.zero_le _, by show 10 * i ≤ 250; omega⟩
      have upsA : ρ 5 ≤ runN m (stS ρ 0 (10 * i)) 5 := runN_up (ρ := stS ρ 0 (10 * i)) (k := 2) (by decide)
      have bsA : runN m (stS ρ 0 (10 * i)) 5 < 2 ^ 31 := runN_b (k := 2) hksA (by omega) (by decide)
      have hksB := Ok_stS (k := 0) (v := 10 * (i - 1)) hk ⟨by decide, Nat.zero_le _, by show 10 * (i - 1) ≤ 250; omega⟩
      have upsB : ρ 5 ≤ runN m (stS ρ 0 (10 * (i - 1))) 5 := runN_up (ρ := stS ρ 0 (10 * (i - 1))) (k := 2) (by decide)
      have bsB : runN m (stS ρ 0 (10 * (i - 1))) 5 < 2 ^ 31 := runN_b (k := 2) hksB (by omega) (by decide)
      have hw2 : ¬ runN m (stS ρ 0 (10 * (i - 1))) 5 = ρ 5 := by
        have q := hbef (i - 1) (by omega)
        rw [Nat.zero_add] at q
        exact q
      refine x_aload_n dL_follows_431 rfl ?_
      refine x_iload dL_follows_432 rfl ?_
      refine x_cX (c9 := 1) (s9 := 6) (As := [_, _]) hO dL_follows_434 o_L_leastLimit s_L_leastLimit l_L_141 ⟨by decide, by decide⟩ ⟨rfl, rfl⟩ ⟨by omega, by omega⟩ rfl rfl (Nat.le_of_ble_eq_true rfl) (q_leaI hN hO hX hT h1 (by omega) (r := nI (10 * i)) hll h (fun C1 h => ?_))
      dsimp only [Option.toList, List.cons_append, List.nil_append]
      rw [nI_l (show 10 * i < 2 ^ 31 by omega)]
      refine x_l2i dL_follows_437 ?_
      rw [lN_i]
      refine x_istore dL_follows_438 (by decide) ?_
      refine x_iload dL_follows_440 rfl ?_
      refine x_iconst (v := (-1)) dL_follows_442 (by decide) ?_
      refine x_icmp_eqN (tgt := 544) dL_follows_443 (by decide) (nI_m1 (by omega)) ?_
      refine x_iload dL_follows_446 rfl ?_
      refine x_if_eqN (tgt := 544) dL_follows_448 (by decide) (by decide) ?_
      refine x_aload_n dL_follows_451 rfl ?_
      refine x_iconst (v := nI 0) dL_follows_452 (by decide) ?_
      refine x_iload dL_follows_453 rfl ?_
      refine x_cX (c9 := 1) (s9 := 6) (As := [_, _, _]) hO dL_follows_455 o_L_set s_L_set l_L_135 ⟨by decide, by decide⟩ ⟨rfl, rfl⟩ ⟨by omega, by omega⟩ rfl rfl (Nat.le_of_ble_eq_true rfl) (y_set hN hO hX hT (k := 0) (v := 10 * i) ⟨by decide, Nat.zero_le _, by show 10 * i ≤ 250; omega⟩ h (fun C1 h => ?_))
      dsimp only [Option.toList, List.cons_append, List.nil_append]
      refine x_lconst (v := 0) dL_follows_458 (by decide) ?_
      refine x_lc_ltN (tgt := 538) dL_follows_459 dL_follows_460 (by decide) (lnn (by have := set_b (k := 0) hW (by decide); omega)) ?_
      refine x_aload_n dL_follows_463 rfl ?_
      refine x_iload dL_follows_464 rfl ?_
      refine x_iconst (v := nI 2) dL_follows_466 (by decide) ?_
      refine x_cX (c9 := 2) (s9 := 12) (As := [_, _, _]) hO dL_follows_467 o_L_coming s_L_coming l_L_137 ⟨by decide, by decide⟩ ⟨rfl, rfl⟩ ⟨by omega, by omega⟩ rfl rfl (Nat.le_of_ble_eq_true rfl) (q_comN hN hO hX hT h1 (by omega) (by decide) (k := 2) (z := runN m (stS ρ 0 (10 * i)) 5 - ρ 5) rfl h (fun C1 h => ?_))
      dsimp only [Option.toList, List.cons_append, List.nil_append]
      refine x_lconst (v := 0) dL_follows_470 (by decide) ?_
      refine x_lc_neN (tgt := 538) dL_follows_471 dL_follows_472 (by decide) (congrArg lN (show runN m (stS ρ 0 (10 * i)) 5 - ρ 5 = 0 by omega)) ?_
      refine x_aload_n dL_follows_475 rfl ?_
      refine x_cX (c9 := 1) (s9 := 6) (As := [_]) hO dL_follows_476 o_L_undo s_L_undo l_L_197 ⟨by decide, by decide⟩ ⟨rfl, rfl⟩ ⟨by omega, by omega⟩ rfl rfl (Nat.le_of_ble_eq_true rfl) (y_undoS hN hO hX hT hL h (fun j9 C1 hj h => ?_))
      dsimp only [Option.toList, List.cons_append, List.nil_append]
      refine x_lconst (v := 0) dL_follows_479 (by decide) ?_
      refine x_lc_ltN (tgt := 538) dL_follows_480 dL_follows_481 (by decide) (lnn (by omega)) ?_
      refine x_iload dL_follows_484 rfl ?_
      refine x_if_eqN (tgt := 525) dL_follows_486 (by decide) (nI_ne0 (by omega) (by omega)) ?_
      refine x_aload_n dL_follows_489 rfl ?_
      refine x_iconst (v := nI 0) dL_follows_490 (by decide) ?_
      refine x_iload dL_follows_491 rfl ?_
      refine x_bipush (v := nI 10) dL_follows_493 (by decide) ?_
      refine x_isub dL_follows_495 ?_
      rw [pk_sub (show 10 ≤ 10 * i by omega), show 10 * i - 10 = 10 * (i - 1) by omega]
      refine x_cX (c9 := 1) (s9 := 6) (As := [_, _, _]) hO dL_follows_496 o_L_set s_L_set l_L_135 ⟨by decide, by decide⟩ ⟨rfl, rfl⟩ ⟨by omega, by omega⟩ rfl rfl (Nat.le_of_ble_eq_true rfl) (y_set hN hO hX hT (k := 0) (v := 10 * (i - 1)) ⟨by decide, Nat.zero_le _, by show 10 * (i - 1) ≤ 250; omega⟩ h (fun C1 h => ?_))
      dsimp only [Option.toList, List.cons_append, List.nil_append]
      refine x_lconst (v := 0) dL_follows_499 (by decide) ?_
      refine x_lc_ltN (tgt := 538) dL_follows_500 dL_follows_501 (by decide) (lnn (by have := set_b (k := 0) hW (by decide); omega)) ?_
      refine x_aload_n dL_follows_504 rfl ?_
      refine x_iload dL_follows_505 rfl ?_
      refine x_iconst (v := nI 2) dL_follows_507 (by decide) ?_
      refine x_cX (c9 := 2) (s9 := 12) (As := [_, _, _]) hO dL_follows_508 o_L_coming s_L_coming l_L_137 ⟨by decide, by decide⟩ ⟨rfl, rfl⟩ ⟨by omega, by omega⟩ rfl rfl (Nat.le_of_ble_eq_true rfl) (q_comN hN hO hX hT h1 (by omega) (by decide) (k := 2) (z := runN m (stS ρ 0 (10 * (i - 1))) 5 - ρ 5) rfl h (fun C1 h => ?_))
      dsimp only [Option.toList, List.cons_append, List.nil_append]
      refine x_lconst (v := 0) dL_follows_511 (by decide) ?_
      refine x_lc_leN (tgt := 538) dL_follows_512 dL_follows_513 (by decide) (fun q => absurd ((pk_lLE (b := 0) (by omega) (by decide)).mp q) (by omega)) ?_
      refine x_aload_n dL_follows_516 rfl ?_
      refine x_cX (c9 := 1) (s9 := 6) (As := [_]) hO dL_follows_517 o_L_undo s_L_undo l_L_197 ⟨by decide, by decide⟩ ⟨rfl, rfl⟩ ⟨by omega, by omega⟩ rfl rfl (Nat.le_of_ble_eq_true rfl) (y_undoS hN hO hX hT hL h (fun j9 C1 hj h => ?_))
      dsimp only [Option.toList, List.cons_append, List.nil_append]
      refine x_lconst (v := 0) dL_follows_520 (by decide) ?_
      refine x_lc_ltN (tgt := 538) dL_follows_521 dL_follows_522 (by decide) (lnn (by omega)) ?_
      refine x_aload_n dL_follows_525 rfl ?_
      refine x_cS (c9 := 220) (s9 := 1320) (As := [_]) hO dL_follows_526 o_L_now s_L_now l_L_115 ⟨by decide, by decide⟩ ⟨rfl, rfl⟩ ⟨by omega, by omega⟩ rfl rfl (Nat.le_of_ble_eq_true rfl) (m_now hN hO hX hT h (fun C1 h => ?_))
      dsimp only [Option.toList, List.cons_append, List.nil_append]
      refine x_lload_n dL_follows_529 rfl ?_
      refine x_lc_neN (tgt := 538) dL_follows_530 dL_follows_531 (by decide) rfl ?_
      refine x_iconst (v := nI 1) dL_follows_534 (by decide) ?_
      refine x_goto (tgt := 539) dL_follows_535 (by decide) ?_
      refine x_istore dL_follows_539 (by decide) ?_
      refine x_goto (tgt := 599) dL_follows_541 (by decide) ?_
      refine x_ls [(0, .ref x), (1, .int (nI X)), (2, .long (nowV ρ)), (4, .long (lN (ρ 0))), (14, .int (nI (ρ 1))), (15, .int (nI m)), (16, .int (nI 1)), (21, .long (lN (runN m ρ 5 - ρ 5)))] ⟨rfl, rfl, rfl, rfl, rfl, rfl, rfl, rfl, trivial⟩ ?_
      refine x_room (k := k0) (n := n0) (by omega) (by omega) ?_
      exact kk _ h

theorem fo_5 {G : GT} {Q : QT} {C0 : AH} {sa va : Nat → Nat} {x T n m X z k0 n0 : Nat} {S : Nat → Nat} {ρ : Rw} {L : List Rw} {K : Nat → Option Rw} (hN : GN G) (hO : GO G) (hX : GX G sa va) (hT : T ≤ 40000) (h1 : 1 ≤ m) (h2 : m ≤ 24) (hL : L.length < 14) (hz : z ≤ 23) (hall : ∀ k, k ≤ 23 → (k < z → runN m (stS ρ 5 z) 3 - ρ 3 < runN m (stS ρ 5 k) 3 - ρ 3) ∧ runN m (stS ρ 5 z) 3 - ρ 3 ≤ runN m (stS ρ 5 k) 3 - ρ 3) (hqb : ∀ k, k ≤ 23 → ρ 3 ≤ runN m (stS ρ 5 k) 3 ∧ runN m (stS ρ 5 k) 3 < 2 ^ 31) : ∀ (d k : Nat) (C : AH), 24 ≤ 5 * d + k → k < 2 ^ 20 → RF T C0 C x (S, n, ρ, L, K) → (∀ C' : AH, RF T C0 C' x (S, n, ρ, L, K) → Ex G M_L_follows Q NX (k0) (n0) 771 [(0, .ref x), (1, .int (nI X)), (2, .long (nowV ρ)), (4, .long (lN (ρ 0))), (14, .int (nI (ρ 1))), (15, .int (nI m)), (16, .int (nI 1)), (21, .long (lN (runN m ρ 5 - ρ 5)))] [] C') → Ex G M_L_follows Q NX (4 * d + k0) (24 * d + n0) 689 [(0, .ref x), (1, .int (nI X)), (2, .long (nowV ρ)), (4, .long (lN (ρ 0))), (14, .int (nI (ρ 1))), (15, .int (nI m)), (16, .int (nI 1)), (21, .long (lN (runN m ρ 5 - ρ 5))), (27, .int (nI z)), (28, .long (lN (runN m (stS ρ 5 z) 3 - ρ 3))), (30, .int (nI k))] [] C := by
  intro d
  induction d with
  | zero =>
    intro k C hd hk20 h kk
    · skip
      refine x_iload dL_follows_689 rfl ?_
      refine x_bipush (v := nI 24) dL_follows_691 (by decide) ?_
      refine x_icmp_geT (tgt := 771) dL_follows_693 (by decide) (nI_le (by omega) (by omega)) ?_
      refine x_ls [(0, .ref x), (1, .int (nI X)), (2, .long (nowV ρ)), (4, .long (lN (ρ 0))), (14, .int (nI (ρ 1))), (15, .int (nI m)), (16, .int (nI 1)), (21, .long (lN (runN m ρ 5 - ρ 5)))] ⟨rfl, rfl, rfl, rfl, rfl, rfl, rfl, rfl, trivial⟩ ?_
      refine x_room (k := k0) (n := n0) (by omega) (by omega) ?_
      exact kk C h
  | succ d ih =>
    intro k C hd hk20 h kk
    have hW5 : Wf ρ := h.1.1.1.1
    by_cases h24 : k < 24
    · obtain ⟨a1, a2⟩ := hall k (by omega)
      obtain ⟨b1, b2⟩ := hqb k (by omega)
      obtain ⟨b3, b4⟩ := hqb z hz
      by_cases hkz : k < z
      · have a1 := a1 hkz
        refine x_iload dL_follows_689 rfl ?_
        refine x_bipush (v := nI 24) dL_follows_691 (by decide) ?_
        refine x_icmp_geN (tgt := 771) dL_follows_693 (by decide) (nI_ge (by omega) (by decide)) ?_
        refine x_iload dL_follows_696 rfl ?_
        refine x_if_eqN (tgt := 771) dL_follows_698 (by decide) (by decide) ?_
        refine x_aload_n dL_follows_701 rfl ?_
        refine x_iconst (v := nI 5) dL_follows_702 (by decide) ?_
        refine x_iload dL_follows_703 rfl ?_
        refine x_cX (c9 := 1) (s9 := 6) (As := [_, _, _]) hO dL_follows_705 o_L_set s_L_set l_L_135 ⟨by decide, by decide⟩ ⟨rfl, rfl⟩ ⟨by omega, by omega⟩ rfl rfl (Nat.le_of_ble_eq_true rfl) (y_set hN hO hX hT (k := 5) (v := k) ⟨by decide, Nat.zero_le _, by show k ≤ 23; omega⟩ h (fun C1 h => ?_))
        dsimp only [Option.toList, List.cons_append, List.nil_append]
        refine x_lconst (v := 0) dL_follows_708 (by decide) ?_
        refine x_lc_ltN (tgt := 762) dL_follows_709 dL_follows_710 (by decide) (lnn (by have := set_b (k := 5) hW5 (by decide); omega)) ?_
        refine x_iload dL_follows_713 rfl ?_
        refine x_iload dL_follows_715 rfl ?_
        refine x_icmp_geN (tgt := 736) dL_follows_717 (by decide) (nI_ge (by omega) (by omega)) ?_
        refine x_aload_n dL_follows_720 rfl ?_
        refine x_iload dL_follows_721 rfl ?_
        refine x_iconst (v := nI 0) dL_follows_723 (by decide) ?_
        refine x_cX (c9 := 2) (s9 := 12) (As := [_, _, _]) hO dL_follows_724 o_L_coming s_L_coming l_L_137 ⟨by decide, by decide⟩ ⟨rfl, rfl⟩ ⟨by omega, by omega⟩ rfl rfl (Nat.le_of_ble_eq_true rfl) (q_comN hN hO hX hT h1 (by omega) (by decide) (k := 0) (z := runN m (stS ρ 5 k) 3 - ρ 3) rfl h (fun C1 h => ?_))
        dsimp only [Option.toList, List.cons_append, List.nil_append]
        refine x_lload dL_follows_727 rfl ?_
        refine x_lc_leN (tgt := 762) dL_follows_729 dL_follows_730 (by decide) (fun q => by have := (pk_lLE (by omega) (by omega)).mp q; omega) ?_
        refine x_goto (tgt := 749) dL_follows_733 (by decide) ?_
        refine x_aload_n dL_follows_749 rfl ?_
        refine x_cX (c9 := 1) (s9 := 6) (As := [_]) hO dL_follows_750 o_L_undo s_L_undo l_L_197 ⟨by decide, by decide⟩ ⟨rfl, rfl⟩ ⟨by omega, by omega⟩ rfl rfl (Nat.le_of_ble_eq_true rfl) (y_undoS hN hO hX hT hL h (fun j9 C1 hj h => ?_))
        dsimp only [Option.toList, List.cons_append, List.nil_append]
        refine x_lconst (v := 0) dL_follows_753 (by decide) ?_
        refine x_lc_ltN (tgt := 762) dL_follows_754 dL_follows_755 (by decide) (lnn (by omega)) ?_
        refine x_iconst (v := nI 1) dL_follows_758 (by decide) ?_
        refine x_goto (tgt := 763) dL_follows_759 (by decide) ?_
        refine x_istore dL_follows_763 (by decide) ?_
        refine x_iinc (v := nI 5) dL_follows_765 rfl (by decide) (by decide) ?_
        refine x_goto (tgt := 689) dL_follows_768 (by decide) ?_
        refine x_ls [(0, .ref x), (1, .int (nI X)), (2, .long (nowV ρ)), (4, .long (lN (ρ 0))), (14, .int (nI (ρ 1))), (15, .int (nI m)), (16, .int (nI 1)), (21, .long (lN (runN m ρ 5 - ρ 5))), (27, .int (nI z)), (28, .long (lN (runN m (stS ρ 5 z) 3 - ρ 3))), (30, .int (nI (k + 5)))] ⟨rfl, rfl, rfl, rfl, rfl, rfl, rfl, rfl, rfl, rfl, (by rw [← nI_add]; rfl), trivial⟩ ?_
        refine x_room (k := 4 * d + k0) (n := 24 * d + n0) (by omega) (by omega) ?_
        exact ih (k + 5) _ (by omega) (by omega) h kk
      · skip
        refine x_iload dL_follows_689 rfl ?_
        refine x_bipush (v := nI 24) dL_follows_691 (by decide) ?_
        refine x_icmp_geN (tgt := 771) dL_follows_693 (by decide) (nI_ge (by omega) (by decide)) ?_
        refine x_iload dL_follows_696 rfl ?_
        refine x_if_eqN (tgt := 771) dL_follows_698 (by decide) (by decide) ?_
        refine x_aload_n dL_follows_701 rfl ?_
        refine x_iconst (v := nI 5) dL_follows_702 (by decide) ?_
        refine x_iload dL_follows_703 rfl ?_
        refine x_cX (c9 := 1) (s9 := 6) (As := [_, _, _]) hO dL_follows_705 o_L_set s_L_set l_L_135 ⟨by decide, by decide⟩ ⟨rfl, rfl⟩ ⟨by omega, by omega⟩ rfl rfl (Nat.le_of_ble_eq_true rfl) (y_set hN hO hX hT (k := 5) (v := k) ⟨by decide, Nat.zero_le _, by show k ≤ 23; omega⟩ h (fun C1 h => ?_))
        dsimp only [Option.toList, List.cons_append, List.nil_append]
        refine x_lconst (v := 0) dL_follows_708 (by decide) ?_
        refine x_lc_ltN (tgt := 762) dL_follows_709 dL_follows_710 (by decide) (lnn (by have := set_b (k := 5) hW5 (by decide); omega)) ?_
        refine x_iload dL_follows_713 rfl ?_
        refine x_iload dL_follows_715 rfl ?_
        refine x_icmp_geT (tgt := 736) dL_follows_717 (by decide) (nI_le (by omega) (by omega)) ?_
        refine x_aload_n dL_follows_736 rfl ?_
        refine x_iload dL_follows_737 rfl ?_
        refine x_iconst (v := nI 0) dL_follows_739 (by decide) ?_
        refine x_cX (c9 := 2) (s9 := 12) (As := [_, _, _]) hO dL_follows_740 o_L_coming s_L_coming l_L_137 ⟨by decide, by decide⟩ ⟨rfl, rfl⟩ ⟨by omega, by omega⟩ rfl rfl (Nat.le_of_ble_eq_true rfl) (q_comN hN hO hX hT h1 (by omega) (by decide) (k := 0) (z := runN m (stS ρ 5 k) 3 - ρ 3) rfl h (fun C1 h => ?_))
        dsimp only [Option.toList, List.cons_append, List.nil_append]
        refine x_lload dL_follows_743 rfl ?_
        refine x_lc_ltN (tgt := 762) dL_follows_745 dL_follows_746 (by decide) (fun q => by have := (pk_lLT (by omega) (by omega)).mp q; omega) ?_
        refine x_aload_n dL_follows_749 rfl ?_
        refine x_cX (c9 := 1) (s9 := 6) (As := [_]) hO dL_follows_750 o_L_undo s_L_undo l_L_197 ⟨by decide, by decide⟩ ⟨rfl, rfl⟩ ⟨by omega, by omega⟩ rfl rfl (Nat.le_of_ble_eq_true rfl) (y_undoS hN hO hX hT hL h (fun j9 C1 hj h => ?_))
        dsimp only [Option.toList, List.cons_append, List.nil_append]
        refine x_lconst (v := 0) dL_follows_753 (by decide) ?_
        refine x_lc_ltN (tgt := 762) dL_follows_754 dL_follows_755 (by decide) (lnn (by omega)) ?_
        refine x_iconst (v := nI 1) dL_follows_758 (by decide) ?_
        refine x_goto (tgt := 763) dL_follows_759 (by decide) ?_
        refine x_istore dL_follows_763 (by decide) ?_
        refine x_iinc (v := nI 5) dL_follows_765 rfl (by decide) (by decide) ?_
        refine x_goto (tgt := 689) dL_follows_768 (by decide) ?_
        refine x_ls [(0, .ref x), (1, .int (nI X)), (2, .long (nowV ρ)), (4, .long (lN (ρ 0))), (14, .int (nI (ρ 1))), (15, .int (nI m)), (16, .int (nI 1)), (21, .long (lN (runN m ρ 5 - ρ 5))), (27, .int (nI z)), (28, .long (lN (runN m (stS ρ 5 z) 3 - ρ 3))), (30, .int (nI (k + 5)))] ⟨rfl, rfl, rfl, rfl, rfl, rfl, rfl, rfl, rfl, rfl, (by rw [← nI_add]; rfl), trivial⟩ ?_
        refine x_room (k := 4 * d + k0) (n := 24 * d + n0) (by omega) (by omega) ?_
        exact ih (k + 5) _ (by omega) (by omega) h kk
    · skip
      refine x_iload dL_follows_689 rfl ?_
      refine x_bipush (v := nI 24) dL_follows_691 (by decide) ?_
      refine x_icmp_geT (tgt := 771) dL_follows_693 (by decide) (nI_le (by omega) (by omega)) ?_
      refine x_ls [(0, .ref x), (1, .int (nI X)), (2, .long (nowV ρ)), (4, .long (lN (ρ 0))), (14, .int (nI (ρ 1))), (15, .int (nI m)), (16, .int (nI 1)), (21, .long (lN (runN m ρ 5 - ρ 5)))] ⟨rfl, rfl, rfl, rfl, rfl, rfl, rfl, rfl, trivial⟩ ?_
      refine x_room (k := k0) (n := n0) (by omega) (by omega) ?_
      exact kk C h

theorem fo_6 {G : GT} {C : AH} {Q : QT} {C0 : AH} {sa va : Nat → Nat} {x T n m X k0 n0 : Nat} {S : Nat → Nat} {ρ : Rw} {L : List Rw} {K : Nat → Option Rw} (hN : GN G) (hO : GO G) (hX : GX G sa va) (hT : T ≤ 40000) (h1 : 1 ≤ m) (h2 : m ≤ 24) (hL : L.length < 14) (hX9 : X < 2 ^ 31) (h : RF T C0 C x (S, n, ρ, L, K)) (kk : ∀ C' : AH, RF T C0 C' x (S, n, ρ, L, K) → Ex G M_L_follows Q NX (k0) (n0) 771 [(0, .ref x), (1, .int (nI X)), (2, .long (nowV ρ)), (4, .long (lN (ρ 0))), (14, .int (nI (ρ 1))), (15, .int (nI m)), (16, .int (nI 1)), (21, .long (lN (runN m ρ 5 - ρ 5)))] [] C') : Ex G M_L_follows Q NX (250 + k0) (1560 + n0) 599 [(0, .ref x), (1, .int (nI X)), (2, .long (nowV ρ)), (4, .long (lN (ρ 0))), (14, .int (nI (ρ 1))), (15, .int (nI m)), (16, .int (nI 1)), (21, .long (lN (runN m ρ 5 - ρ 5)))] [] C := by
  have hk : Ok T ρ := h.1.1.1
  obtain ⟨hW, hB⟩ := id hk
  obtain ⟨w1, w2, w7, w8, w9, w10, w11, w11', w12, wB, wP⟩ := id hW
  have hq9 : ∀ k, k ≤ 23 → Ok T (stS ρ 5 k) ∧ ρ 3 ≤ runN m (stS ρ 5 k) 3 ∧ runN m (stS ρ 5 k) 3 < 2 ^ 31 := fun k hk9 => by
    have q := Ok_stS (k := 5) (v := k) hk ⟨by decide, Nat.zero_le _, hk9⟩
    exact ⟨q, runN_up (ρ := stS ρ 5 k) (k := 0) (by decide), runN_b (k := 0) q (by omega) (by decide)⟩
  have hbs := bs_spec (c := cst ρ m) (q := (fun k => runN m (stS ρ 5 k) 3 - ρ 3)) (n := 23) fun k hk9 => ⟨by
    unfold cst
    rw [pk_sub (hq9 k hk9).2.1], by have := (hq9 k hk9).2.2; show runN m (stS ρ 5 k) 3 - ρ 3 < 2 ^ 31; omega⟩
  obtain ⟨hz, -, hall⟩ := hbs
  obtain ⟨z, hze⟩ : ∃ z, (bsS (cst ρ m) 23).1 = z := ⟨_, rfl⟩
  rw [hze] at hz hall
  have hqz := hq9 z hz
  refine x_aload_n dL_follows_599 rfl ?_
  refine x_iload dL_follows_600 rfl ?_
  refine x_cX (c9 := 1) (s9 := 6) (As := [_, _]) hO dL_follows_602 o_L_bestNight s_L_bestNight l_L_143 ⟨by decide, by decide⟩ ⟨rfl, rfl⟩ ⟨by omega, by omega⟩ rfl rfl (Nat.le_of_ble_eq_true rfl) (q_besN hN hO hX hT h1 (by omega) hze hz h (fun C1 h => ?_))
  dsimp only [Option.toList, List.cons_append, List.nil_append]
  refine x_l2i dL_follows_605 ?_
  rw [lN_i]
  refine x_istore dL_follows_606 (by decide) ?_
  refine x_iload dL_follows_608 rfl ?_
  refine x_if_eqN (tgt := 642) dL_follows_610 (by decide) (by decide) ?_
  refine x_iload dL_follows_613 rfl ?_
  refine x_i2l dL_follows_615 ?_
  rw [nI_l (show z < 2 ^ 31 by omega)]
  refine x_lconst (v := 0) dL_follows_616 (by decide) ?_
  refine x_ldc2 hO.1 dL_follows_617 k_L_201 ?_
  refine x_cS (c9 := 0) (s9 := 0) (As := [_, _, _]) hO dL_follows_620 o_L_in s_L_in l_L_164 ⟨by decide, by decide⟩ ⟨rfl, rfl⟩ ⟨by omega, by omega⟩ rfl rfl (Nat.le_of_ble_eq_true rfl) (m_in (fun r hr => ?_))
  dsimp only [Option.toList, List.cons_append, List.nil_append]
  refine x_if_eqN (tgt := 642) dL_follows_623 (by decide) (by rw [hr]; exact in_ok (a := 0) (v := z) (b := 23) (by omega) (by omega) (by omega)) ?_
  refine x_aload_n dL_follows_626 rfl ?_
  refine x_iconst (v := nI 5) dL_follows_627 (by decide) ?_
  refine x_iload dL_follows_628 rfl ?_
  refine x_cX (c9 := 1) (s9 := 6) (As := [_, _, _]) hO dL_follows_630 o_L_set s_L_set l_L_135 ⟨by decide, by decide⟩ ⟨rfl, rfl⟩ ⟨by omega, by omega⟩ rfl rfl (Nat.le_of_ble_eq_true rfl) (y_set hN hO hX hT (k := 5) (v := z) ⟨by decide, Nat.zero_le _, by show z ≤ 23; omega⟩ h (fun C1 h => ?_))
  dsimp only [Option.toList, List.cons_append, List.nil_append]
  refine x_lconst (v := 0) dL_follows_633 (by decide) ?_
  refine x_lc_ltN (tgt := 642) dL_follows_634 dL_follows_635 (by decide) (lnn (by have := set_b (k := 5) hW (by decide); omega)) ?_
  refine x_iconst (v := nI 1) dL_follows_638 (by decide) ?_
  refine x_goto (tgt := 643) dL_follows_639 (by decide) ?_
  refine x_istore dL_follows_643 (by decide) ?_
  refine x_aload_n dL_follows_645 rfl ?_
  refine x_iload dL_follows_646 rfl ?_
  refine x_iconst (v := nI 0) dL_follows_648 (by decide) ?_
  refine x_cX (c9 := 2) (s9 := 12) (As := [_, _, _]) hO dL_follows_649 o_L_coming s_L_coming l_L_137 ⟨by decide, by decide⟩ ⟨rfl, rfl⟩ ⟨by omega, by omega⟩ rfl rfl (Nat.le_of_ble_eq_true rfl) (q_comN hN hO hX hT h1 (by omega) (by decide) (k := 0) (z := runN m (stS ρ 5 z) 3 - ρ 3) rfl h (fun C1 h => ?_))
  dsimp only [Option.toList, List.cons_append, List.nil_append]
  refine x_lstore dL_follows_652 (by decide) ?_
  refine x_iload dL_follows_654 rfl ?_
  refine x_if_eqN (tgt := 681) dL_follows_656 (by decide) (by decide) ?_
  refine x_aload_n dL_follows_659 rfl ?_
  refine x_cX (c9 := 1) (s9 := 6) (As := [_]) hO dL_follows_660 o_L_undo s_L_undo l_L_197 ⟨by decide, by decide⟩ ⟨rfl, rfl⟩ ⟨by omega, by omega⟩ rfl rfl (Nat.le_of_ble_eq_true rfl) (y_undoS hN hO hX hT hL h (fun j9 C1 hj h => ?_))
  dsimp only [Option.toList, List.cons_append, List.nil_append]
  refine x_lconst (v := 0) dL_follows_663 (by decide) ?_
  refine x_lc_ltN (tgt := 681) dL_follows_664 dL_follows_665 (by decide) (lnn (by omega)) ?_
  refine x_aload_n dL_follows_668 rfl ?_
  refine x_cS (c9 := 220) (s9 := 1320) (As := [_]) hO dL_follows_669 o_L_now s_L_now l_L_115 ⟨by decide, by decide⟩ ⟨rfl, rfl⟩ ⟨by omega, by omega⟩ rfl rfl (Nat.le_of_ble_eq_true rfl) (m_now hN hO hX hT h (fun C1 h => ?_))
  dsimp only [Option.toList, List.cons_append, List.nil_append]
  refine x_lload_n dL_follows_672 rfl ?_
  refine x_lc_neN (tgt := 681) dL_follows_673 dL_follows_674 (by decide) rfl ?_
  refine x_iconst (v := nI 1) dL_follows_677 (by decide) ?_
  refine x_goto (tgt := 682) dL_follows_678 (by decide) ?_
  refine x_istore dL_follows_682 (by decide) ?_
  refine x_iload_n dL_follows_684 rfl ?_
  refine x_iconst (v := nI 5) dL_follows_685 (by decide) ?_
  refine x_irem dL_follows_686 (by decide) ?_
  rw [pk_rem hX9 (by decide) (by decide)]
  refine x_istore dL_follows_687 (by decide) ?_
  refine x_ls [(0, .ref x), (1, .int (nI X)), (2, .long (nowV ρ)), (4, .long (lN (ρ 0))), (14, .int (nI (ρ 1))), (15, .int (nI m)), (16, .int (nI 1)), (21, .long (lN (runN m ρ 5 - ρ 5))), (27, .int (nI z)), (28, .long (lN (runN m (stS ρ 5 z) 3 - ρ 3))), (30, .int (nI (X % 5)))] ⟨rfl, rfl, rfl, rfl, rfl, rfl, rfl, rfl, rfl, rfl, rfl, trivial⟩ ?_
  refine x_room (k := 4 * 5 + k0) (n := 24 * 5 + n0) (by omega) (by omega) ?_
  exact fo_5 hN hO hX hT h1 h2 hL hz hall (fun k hk9 => (hq9 k hk9).2) 5 (X % 5) _ (by omega) (by omega) h kk

theorem fo_7 {G : GT} {C : AH} {Q : QT} {C0 : AH} {sa va : Nat → Nat} {x T n m X k0 n0 : Nat} {S : Nat → Nat} {ρ : Rw} {L : List Rw} {K : Nat → Option Rw} (hN : GN G) (hO : GO G) (hX : GX G sa va) (hT : T ≤ 40000) (h1 : 1 ≤ m) (h2 : m ≤ 24) (hL : L.length < 14) (hX9 : X < 2 ^ 31) (h : RF T C0 C x (S, n, ρ, L, K)) (kk : ∀ C' : AH, RF T C0 C' x (S, n, ρ, L, K) → Ex G M_L_follows Q NX (k0) (n0) 877 [(0, .ref x), (1, .int (nI X)), (2, .long (nowV ρ)), (4, .long (lN (ρ 0))), (14, .int (nI (ρ 1))), (15, .int (nI m)), (16, .int (nI 1)), (21, .long (lN (runN m ρ 5 - ρ 5)))] [] C') : Ex G M_L_follows Q NX (235 + k0) (1440 + n0) 771 [(0, .ref x), (1, .int (nI X)), (2, .long (nowV ρ)), (4, .long (lN (ρ 0))), (14, .int (nI (ρ 1))), (15, .int (nI m)), (16, .int (nI 1)), (21, .long (lN (runN m ρ 5 - ρ 5)))] [] C := by
  have hk : Ok T ρ := h.1.1.1
  obtain ⟨hW, hB⟩ := id hk
  obtain ⟨w1, w2, w7, w8, w9, w10, w11, w11', w12, wB, wP⟩ := id hW
  by_cases h5 : ρ 2 = 5
  · skip
    refine x_iconst (v := nI 1) dL_follows_771 (by decide) ?_
    refine x_iload_n dL_follows_772 rfl ?_
    refine x_bipush (v := nI 7) dL_follows_773 (by decide) ?_
    refine x_idiv dL_follows_775 (by decide) ?_
    rw [pk_div hX9 (by decide) (by decide)]
    refine x_bipush (v := nI 50) dL_follows_776 (by decide) ?_
    refine x_irem dL_follows_778 (by decide) ?_
    rw [pk_rem (by omega) (by decide) (by decide)]
    refine x_iadd dL_follows_779 ?_
    rw [nI_add]
    refine x_istore dL_follows_780 (by decide) ?_
    refine x_aload_n dL_follows_782 rfl ?_
    refine x_iload dL_follows_783 rfl ?_
    refine x_iload dL_follows_785 rfl ?_
    refine x_cX (c9 := 3) (s9 := 18) (As := [_, _, _]) hO dL_follows_787 o_L_ifPlugged s_L_ifPlugged l_L_126 ⟨by decide, by decide⟩ ⟨rfl, rfl⟩ ⟨by omega, by omega⟩ rfl rfl (Nat.le_of_ble_eq_true rfl) (q_ifp5 hN hO hX hT (by omega) (by omega) h1 (by omega) h5 h (fun C1 h => ?_))
    dsimp only [Option.toList, List.cons_append, List.nil_append]
    refine x_lstore dL_follows_790 (by decide) ?_
    refine x_iload dL_follows_792 rfl ?_
    refine x_if_eqN (tgt := 874) dL_follows_794 (by decide) (by decide) ?_
    refine x_lload dL_follows_797 rfl ?_
    refine x_ldc2 hO.1 dL_follows_799 k_L_21 ?_
    refine x_lc_neN (tgt := 822) dL_follows_802 dL_follows_803 (by decide) rfl ?_
    refine x_aload_n dL_follows_806 rfl ?_
    refine x_iload dL_follows_807 rfl ?_
    refine x_cX (c9 := 2) (s9 := 12) (As := [_, _]) hO dL_follows_809 o_L_addCharger s_L_addCharger l_L_124 ⟨by decide, by decide⟩ ⟨rfl, rfl⟩ ⟨by omega, by omega⟩ rfl rfl (Nat.le_of_ble_eq_true rfl) (z_addCharger hN hO hX hT h (aAddC_2 ⟨nI_le (by omega) (by omega), nI_le (by omega) (by decide)⟩ h5) (lw_2 rfl) (fun C1 h => ?_))
    dsimp only [Option.toList, List.cons_append, List.nil_append]
    refine x_ldc2 hO.1 dL_follows_812 k_L_21 ?_
    refine x_lc_neN (tgt := 874) dL_follows_815 dL_follows_816 (by decide) rfl ?_
    refine x_goto (tgt := 861) dL_follows_819 (by decide) ?_
    refine x_aload_n dL_follows_861 rfl ?_
    refine x_cS (c9 := 220) (s9 := 1320) (As := [_]) hO dL_follows_862 o_L_now s_L_now l_L_115 ⟨by decide, by decide⟩ ⟨rfl, rfl⟩ ⟨by omega, by omega⟩ rfl rfl (Nat.le_of_ble_eq_true rfl) (m_now hN hO hX hT h (fun C1 h => ?_))
    dsimp only [Option.toList, List.cons_append, List.nil_append]
    refine x_lload_n dL_follows_865 rfl ?_
    refine x_lc_neN (tgt := 874) dL_follows_866 dL_follows_867 (by decide) rfl ?_
    refine x_iconst (v := nI 1) dL_follows_870 (by decide) ?_
    refine x_goto (tgt := 875) dL_follows_871 (by decide) ?_
    refine x_istore dL_follows_875 (by decide) ?_
    refine x_ls [(0, .ref x), (1, .int (nI X)), (2, .long (nowV ρ)), (4, .long (lN (ρ 0))), (14, .int (nI (ρ 1))), (15, .int (nI m)), (16, .int (nI 1)), (21, .long (lN (runN m ρ 5 - ρ 5)))] ⟨rfl, rfl, rfl, rfl, rfl, rfl, rfl, rfl, trivial⟩ ?_
    refine x_room (k := k0) (n := n0) (by omega) (by omega) ?_
    exact kk _ h
  · have hk2 := Ok_addC (p := (1 + X / 7 % 50)) hk (by omega) (by omega) (by omega)
    have bb : runN m (addC ρ (1 + X / 7 % 50)) 5 < 2 ^ 31 := runN_b (n := m) (k := 2) hk2 (by omega) (by decide)
    have e2 : abN (addC ρ (1 + X / 7 % 50)) 1 = ρ 2 + 1 := by
      show addC ρ (1 + X / 7 % 50) 2 = ρ 2 + 1
      unfold addC
      exact uN_s
    have e5 : runN m (addC ρ (1 + X / 7 % 50)) (3 + 2) - addC ρ (1 + X / 7 % 50) (3 + 2) = runN m (addC ρ (1 + X / 7 % 50)) 5 - ρ 5 := by rw [show (3 + 2) = 5 from rfl, addC_5]
    refine x_iconst (v := nI 1) dL_follows_771 (by decide) ?_
    refine x_iload_n dL_follows_772 rfl ?_
    refine x_bipush (v := nI 7) dL_follows_773 (by decide) ?_
    refine x_idiv dL_follows_775 (by decide) ?_
    rw [pk_div hX9 (by decide) (by decide)]
    refine x_bipush (v := nI 50) dL_follows_776 (by decide) ?_
    refine x_irem dL_follows_778 (by decide) ?_
    rw [pk_rem (by omega) (by decide) (by decide)]
    refine x_iadd dL_follows_779 ?_
    rw [nI_add]
    refine x_istore dL_follows_780 (by decide) ?_
    refine x_aload_n dL_follows_782 rfl ?_
    refine x_iload dL_follows_783 rfl ?_
    refine x_iload dL_follows_785 rfl ?_
    refine x_cX (c9 := 3) (s9 := 18) (As := [_, _, _]) hO dL_follows_787 o_L_ifPlugged s_L_ifPlugged l_L_126 ⟨by decide, by decide⟩ ⟨rfl, rfl⟩ ⟨by omega, by omega⟩ rfl rfl (Nat.le_of_ble_eq_true rfl) (q_ifpN hN hO hX hT (by omega) (by omega) h1 (by omega) h5 h (fun C1 h => ?_))
    dsimp only [Option.toList, List.cons_append, List.nil_append]
    refine x_lstore dL_follows_790 (by decide) ?_
    refine x_iload dL_follows_792 rfl ?_
    refine x_if_eqN (tgt := 874) dL_follows_794 (by decide) (by decide) ?_
    refine x_lload dL_follows_797 rfl ?_
    refine x_ldc2 hO.1 dL_follows_799 k_L_21 ?_
    refine x_lc_neT (tgt := 822) dL_follows_802 dL_follows_803 (by decide) (lnS (by omega)) ?_
    refine x_aload_n dL_follows_822 rfl ?_
    refine x_iload dL_follows_823 rfl ?_
    refine x_cX (c9 := 2) (s9 := 12) (As := [_, _]) hO dL_follows_825 o_L_addCharger s_L_addCharger l_L_124 ⟨by decide, by decide⟩ ⟨rfl, rfl⟩ ⟨by omega, by omega⟩ rfl rfl (Nat.le_of_ble_eq_true rfl) (y_addCharger hN hO hX hT (by omega) (by omega) h5 h (fun C1 h => ?_))
    dsimp only [Option.toList, List.cons_append, List.nil_append]
    refine x_aload_n dL_follows_828 rfl ?_
    refine x_iconst (v := nI 1) dL_follows_829 (by decide) ?_
    refine x_cX (c9 := 1) (s9 := 6) (As := [_, _]) hO dL_follows_830 o_L_about s_L_about l_L_103 ⟨by decide, by decide⟩ ⟨rfl, rfl⟩ ⟨by omega, by omega⟩ rfl rfl (Nat.le_of_ble_eq_true rfl) (q_aboN hN hO hX hT (by decide) (z := ρ 2 + 1) e2 h (fun C1 h => ?_))
    dsimp only [Option.toList, List.cons_append, List.nil_append]
    refine x_lconst (v := 1) dL_follows_833 (by decide) ?_
    refine x_lsub dL_follows_834 ?_
    rw [show (1 : Int64) = lN 1 from rfl, lN_sub (show 1 ≤ ρ 2 + 1 by omega)]
    refine x_lc_neN (tgt := 874) dL_follows_835 dL_follows_836 (by decide) rfl ?_
    refine x_aload_n dL_follows_839 rfl ?_
    refine x_iload dL_follows_840 rfl ?_
    refine x_iconst (v := nI 2) dL_follows_842 (by decide) ?_
    refine x_cX (c9 := 2) (s9 := 12) (As := [_, _, _]) hO dL_follows_843 o_L_coming s_L_coming l_L_137 ⟨by decide, by decide⟩ ⟨rfl, rfl⟩ ⟨by omega, by omega⟩ rfl rfl (Nat.le_of_ble_eq_true rfl) (q_comN hN hO hX hT h1 (by omega) (by decide) (k := 2) (z := runN m (addC ρ (1 + X / 7 % 50)) 5 - ρ 5) e5 h (fun C1 h => ?_))
    dsimp only [Option.toList, List.cons_append, List.nil_append]
    refine x_lload dL_follows_846 rfl ?_
    refine x_lc_neN (tgt := 874) dL_follows_848 dL_follows_849 (by decide) rfl ?_
    refine x_aload_n dL_follows_852 rfl ?_
    refine x_cX (c9 := 1) (s9 := 6) (As := [_]) hO dL_follows_853 o_L_undo s_L_undo l_L_197 ⟨by decide, by decide⟩ ⟨rfl, rfl⟩ ⟨by omega, by omega⟩ rfl rfl (Nat.le_of_ble_eq_true rfl) (y_undoS hN hO hX hT hL h (fun j9 C1 hj h => ?_))
    dsimp only [Option.toList, List.cons_append, List.nil_append]
    refine x_lconst (v := 0) dL_follows_856 (by decide) ?_
    refine x_lc_ltN (tgt := 874) dL_follows_857 dL_follows_858 (by decide) (lnn (by omega)) ?_
    refine x_aload_n dL_follows_861 rfl ?_
    refine x_cS (c9 := 220) (s9 := 1320) (As := [_]) hO dL_follows_862 o_L_now s_L_now l_L_115 ⟨by decide, by decide⟩ ⟨rfl, rfl⟩ ⟨by omega, by omega⟩ rfl rfl (Nat.le_of_ble_eq_true rfl) (m_now hN hO hX hT h (fun C1 h => ?_))
    dsimp only [Option.toList, List.cons_append, List.nil_append]
    refine x_lload_n dL_follows_865 rfl ?_
    refine x_lc_neN (tgt := 874) dL_follows_866 dL_follows_867 (by decide) rfl ?_
    refine x_iconst (v := nI 1) dL_follows_870 (by decide) ?_
    refine x_goto (tgt := 875) dL_follows_871 (by decide) ?_
    refine x_istore dL_follows_875 (by decide) ?_
    refine x_ls [(0, .ref x), (1, .int (nI X)), (2, .long (nowV ρ)), (4, .long (lN (ρ 0))), (14, .int (nI (ρ 1))), (15, .int (nI m)), (16, .int (nI 1)), (21, .long (lN (runN m ρ 5 - ρ 5)))] ⟨rfl, rfl, rfl, rfl, rfl, rfl, rfl, rfl, trivial⟩ ?_
    refine x_room (k := k0) (n := n0) (by omega) (by omega) ?_
    exact kk _ h

theorem fo_8 {G : GT} {C : AH} {Q : QT} {C0 : AH} {sa va : Nat → Nat} {x T n m X k0 n0 : Nat} {S : Nat → Nat} {ρ : Rw} {L : List Rw} {K : Nat → Option Rw} (hN : GN G) (hO : GO G) (hX : GX G sa va) (hT : T ≤ 40000) (h1 : 1 ≤ m) (h2 : m ≤ 24) (hL : L.length < 14) (hX9 : X < 2 ^ 31) (h : RF T C0 C x (S, n, ρ, L, K)) (kk : ∀ C' : AH, RF T C0 C' x (S, n, ρ, L, K) → Ex G M_L_follows Q NX (k0) (n0) 1005 [(0, .ref x), (1, .int (nI X)), (2, .long (nowV ρ)), (4, .long (lN (ρ 0))), (14, .int (nI (ρ 1))), (15, .int (nI m)), (16, .int (nI 1)), (21, .long (lN (runN m ρ 5 - ρ 5)))] [] C') : Ex G M_L_follows Q NX (240 + k0) (1460 + n0) 877 [(0, .ref x), (1, .int (nI X)), (2, .long (nowV ρ)), (4, .long (lN (ρ 0))), (14, .int (nI (ρ 1))), (15, .int (nI m)), (16, .int (nI 1)), (21, .long (lN (runN m ρ 5 - ρ 5)))] [] C := by
  have hk : Ok T ρ := h.1.1.1
  obtain ⟨hW, hB⟩ := id hk
  obtain ⟨w1, w2, w7, w8, w9, w10, w11, w11', w12, wB, wP⟩ := id hW
  by_cases h0 : ρ 1 = 0
  · skip
    refine x_iload dL_follows_877 rfl ?_
    refine x_if_neN (tgt := 886) dL_follows_879 (by decide) (congrArg nI h0) ?_
    refine x_iconst (v := (-1)) dL_follows_882 (by decide) ?_
    refine x_goto (tgt := 893) dL_follows_883 (by decide) ?_
    refine x_istore dL_follows_893 (by decide) ?_
    refine x_iload dL_follows_895 rfl ?_
    refine x_iconst (v := (-1)) dL_follows_897 (by decide) ?_
    refine x_icmp_eqT (tgt := 1005) dL_follows_898 (by decide) rfl ?_
    refine x_ls [(0, .ref x), (1, .int (nI X)), (2, .long (nowV ρ)), (4, .long (lN (ρ 0))), (14, .int (nI (ρ 1))), (15, .int (nI m)), (16, .int (nI 1)), (21, .long (lN (runN m ρ 5 - ρ 5)))] ⟨rfl, rfl, rfl, rfl, rfl, rfl, rfl, rfl, trivial⟩ ?_
    refine x_room (k := k0) (n := n0) (by omega) (by omega) ?_
    exact kk _ h
  have hb : (X / 11 % ρ 1) < ρ 1 := Nat.mod_lt _ (by omega)
  have g9 := (wB (X / 11 % ρ 1) hb).2.2.2.2.2.2.2.2
  have hdiv : X / 11 < 2 ^ 31 := by omega
  by_cases ho : ρ (bi (X / 11 % ρ 1) 6) = 0
  · have hb2 : (X / 11 % ρ 1) < btB ρ (X / 11 % ρ 1) 30 1 := by rw [btB_o (by simp only [bi]; omega) (by simp only [bi]; omega) (by simp only [bi]; omega)]; exact hb
    refine x_iload dL_follows_877 rfl ?_
    refine x_if_neT (tgt := 886) dL_follows_879 (by decide) (nI_ne0 (by omega) (by omega)) ?_
    refine x_iload_n dL_follows_886 rfl ?_
    refine x_bipush (v := nI 11) dL_follows_887 (by decide) ?_
    refine x_idiv dL_follows_889 (by decide) ?_
    rw [pk_div hX9 (by decide) (by decide)]
    refine x_iload dL_follows_890 rfl ?_
    refine x_irem dL_follows_892 (nI_ne0 (by omega) (by omega)) ?_
    rw [pk_rem (by omega) (by omega) (by omega)]
    refine x_istore dL_follows_893 (by decide) ?_
    refine x_iload dL_follows_895 rfl ?_
    refine x_iconst (v := (-1)) dL_follows_897 (by decide) ?_
    refine x_icmp_eqN (tgt := 1005) dL_follows_898 (by decide) (nI_m1 (by omega)) ?_
    refine x_iload dL_follows_901 rfl ?_
    refine x_if_eqN (tgt := 1005) dL_follows_903 (by decide) (by decide) ?_
    refine x_aload_n dL_follows_906 rfl ?_
    refine x_iload dL_follows_907 rfl ?_
    refine x_bipush (v := nI 6) dL_follows_909 (by decide) ?_
    refine x_cX (c9 := 2) (s9 := 12) (As := [_, _, _]) hO dL_follows_911 o_L_bus s_L_bus l_L_110 ⟨by decide, by decide⟩ ⟨rfl, rfl⟩ ⟨by omega, by omega⟩ rfl rfl (Nat.le_of_ble_eq_true rfl) (q_busN hN hO hX hT hb (by decide) (by decide) (z := ρ (bi (X / 11 % ρ 1) 6)) rfl h (fun C1 h => ?_))
    dsimp only [Option.toList, List.cons_append, List.nil_append]
    refine x_lconst (v := 0) dL_follows_914 (by decide) ?_
    refine x_lc_neN (tgt := 1005) dL_follows_915 dL_follows_916 (by decide) (congrArg lN ho) ?_
    refine x_aload_n dL_follows_919 rfl ?_
    refine x_iload dL_follows_920 rfl ?_
    refine x_iconst (v := nI 0) dL_follows_922 (by decide) ?_
    refine x_cX (c9 := 2) (s9 := 12) (As := [_, _, _]) hO dL_follows_923 o_L_bus s_L_bus l_L_110 ⟨by decide, by decide⟩ ⟨rfl, rfl⟩ ⟨by omega, by omega⟩ rfl rfl (Nat.le_of_ble_eq_true rfl) (q_busN hN hO hX hT hb (by decide) (by decide) (z := ρ (bi (X / 11 % ρ 1) 0)) rfl h (fun C1 h => ?_))
    dsimp only [Option.toList, List.cons_append, List.nil_append]
    refine x_lstore dL_follows_926 (by decide) ?_
    refine x_aload_n dL_follows_928 rfl ?_
    refine x_iload dL_follows_929 rfl ?_
    refine x_bipush (v := nI 30) dL_follows_931 (by decide) ?_
    refine x_cX (c9 := 3) (s9 := 18) (As := [_, _, _]) hO dL_follows_933 o_L_battery s_L_battery l_L_131 ⟨by decide, by decide⟩ ⟨rfl, rfl⟩ ⟨by omega, by omega⟩ rfl rfl (Nat.le_of_ble_eq_true rfl) (y_battery hN hO hX hT hb ho (by decide) (by decide) h (fun C1 h => ?_))
    dsimp only [Option.toList, List.cons_append, List.nil_append]
    refine x_lload dL_follows_936 rfl ?_
    refine x_lc_neN (tgt := 1002) dL_follows_938 dL_follows_939 (by decide) rfl ?_
    refine x_aload_n dL_follows_942 rfl ?_
    refine x_iload dL_follows_943 rfl ?_
    refine x_iconst (v := nI 1) dL_follows_945 (by decide) ?_
    refine x_cX (c9 := 2) (s9 := 12) (As := [_, _, _]) hO dL_follows_946 o_L_bus s_L_bus l_L_110 ⟨by decide, by decide⟩ ⟨rfl, rfl⟩ ⟨by omega, by omega⟩ rfl rfl (Nat.le_of_ble_eq_true rfl) (q_busN hN hO hX hT hb2 (by decide) (by decide) (z := 0) btB_b1 h (fun C1 h => ?_))
    dsimp only [Option.toList, List.cons_append, List.nil_append]
    refine x_lconst (v := 0) dL_follows_949 (by decide) ?_
    refine x_lc_neN (tgt := 1002) dL_follows_950 dL_follows_951 (by decide) rfl ?_
    refine x_aload_n dL_follows_954 rfl ?_
    refine x_iload dL_follows_955 rfl ?_
    refine x_iconst (v := nI 5) dL_follows_957 (by decide) ?_
    refine x_cX (c9 := 2) (s9 := 12) (As := [_, _, _]) hO dL_follows_958 o_L_bus s_L_bus l_L_110 ⟨by decide, by decide⟩ ⟨rfl, rfl⟩ ⟨by omega, by omega⟩ rfl rfl (Nat.le_of_ble_eq_true rfl) (q_busN hN hO hX hT hb2 (by decide) (by decide) (z := 0) btB_b5 h (fun C1 h => ?_))
    dsimp only [Option.toList, List.cons_append, List.nil_append]
    refine x_lconst (v := 0) dL_follows_961 (by decide) ?_
    refine x_lc_neN (tgt := 1002) dL_follows_962 dL_follows_963 (by decide) rfl ?_
    refine x_aload_n dL_follows_966 rfl ?_
    refine x_iload dL_follows_967 rfl ?_
    refine x_iconst (v := nI 0) dL_follows_969 (by decide) ?_
    refine x_cX (c9 := 2) (s9 := 12) (As := [_, _, _]) hO dL_follows_970 o_L_bus s_L_bus l_L_110 ⟨by decide, by decide⟩ ⟨rfl, rfl⟩ ⟨by omega, by omega⟩ rfl rfl (Nat.le_of_ble_eq_true rfl) (q_busN hN hO hX hT hb2 (by decide) (by decide) (z := 30) btB_b0 h (fun C1 h => ?_))
    dsimp only [Option.toList, List.cons_append, List.nil_append]
    refine x_ldc2 hO.1 dL_follows_973 k_L_203 ?_
    refine x_lc_neN (tgt := 1002) dL_follows_976 dL_follows_977 (by decide) rfl ?_
    refine x_aload_n dL_follows_980 rfl ?_
    refine x_cX (c9 := 1) (s9 := 6) (As := [_]) hO dL_follows_981 o_L_undo s_L_undo l_L_197 ⟨by decide, by decide⟩ ⟨rfl, rfl⟩ ⟨by omega, by omega⟩ rfl rfl (Nat.le_of_ble_eq_true rfl) (y_undoS hN hO hX hT hL h (fun j9 C1 hj h => ?_))
    dsimp only [Option.toList, List.cons_append, List.nil_append]
    refine x_lconst (v := 0) dL_follows_984 (by decide) ?_
    refine x_lc_ltN (tgt := 1002) dL_follows_985 dL_follows_986 (by decide) (lnn (by omega)) ?_
    refine x_aload_n dL_follows_989 rfl ?_
    refine x_cS (c9 := 220) (s9 := 1320) (As := [_]) hO dL_follows_990 o_L_now s_L_now l_L_115 ⟨by decide, by decide⟩ ⟨rfl, rfl⟩ ⟨by omega, by omega⟩ rfl rfl (Nat.le_of_ble_eq_true rfl) (m_now hN hO hX hT h (fun C1 h => ?_))
    dsimp only [Option.toList, List.cons_append, List.nil_append]
    refine x_lload_n dL_follows_993 rfl ?_
    refine x_lc_neN (tgt := 1002) dL_follows_994 dL_follows_995 (by decide) rfl ?_
    refine x_iconst (v := nI 1) dL_follows_998 (by decide) ?_
    refine x_goto (tgt := 1003) dL_follows_999 (by decide) ?_
    refine x_istore dL_follows_1003 (by decide) ?_
    refine x_ls [(0, .ref x), (1, .int (nI X)), (2, .long (nowV ρ)), (4, .long (lN (ρ 0))), (14, .int (nI (ρ 1))), (15, .int (nI m)), (16, .int (nI 1)), (21, .long (lN (runN m ρ 5 - ρ 5)))] ⟨rfl, rfl, rfl, rfl, rfl, rfl, rfl, rfl, trivial⟩ ?_
    refine x_room (k := k0) (n := n0) (by omega) (by omega) ?_
    exact kk _ h
  · skip
    refine x_iload dL_follows_877 rfl ?_
    refine x_if_neT (tgt := 886) dL_follows_879 (by decide) (nI_ne0 (by omega) (by omega)) ?_
    refine x_iload_n dL_follows_886 rfl ?_
    refine x_bipush (v := nI 11) dL_follows_887 (by decide) ?_
    refine x_idiv dL_follows_889 (by decide) ?_
    rw [pk_div hX9 (by decide) (by decide)]
    refine x_iload dL_follows_890 rfl ?_
    refine x_irem dL_follows_892 (nI_ne0 (by omega) (by omega)) ?_
    rw [pk_rem (by omega) (by omega) (by omega)]
    refine x_istore dL_follows_893 (by decide) ?_
    refine x_iload dL_follows_895 rfl ?_
    refine x_iconst (v := (-1)) dL_follows_897 (by decide) ?_
    refine x_icmp_eqN (tgt := 1005) dL_follows_898 (by decide) (nI_m1 (by omega)) ?_
    refine x_iload dL_follows_901 rfl ?_
    refine x_if_eqN (tgt := 1005) dL_follows_903 (by decide) (by decide) ?_
    refine x_aload_n dL_follows_906 rfl ?_
    refine x_iload dL_follows_907 rfl ?_
    refine x_bipush (v := nI 6) dL_follows_909 (by decide) ?_
    refine x_cX (c9 := 2) (s9 := 12) (As := [_, _, _]) hO dL_follows_911 o_L_bus s_L_bus l_L_110 ⟨by decide, by decide⟩ ⟨rfl, rfl⟩ ⟨by omega, by omega⟩ rfl rfl (Nat.le_of_ble_eq_true rfl) (q_busN hN hO hX hT hb (by decide) (by decide) (z := ρ (bi (X / 11 % ρ 1) 6)) rfl h (fun C1 h => ?_))
    dsimp only [Option.toList, List.cons_append, List.nil_append]
    refine x_lconst (v := 0) dL_follows_914 (by decide) ?_
    refine x_lc_neT (tgt := 1005) dL_follows_915 dL_follows_916 (by decide) (fun q => ho ((pk_lEQ (b := 0) (by omega) (by decide)).mp q)) ?_
    refine x_ls [(0, .ref x), (1, .int (nI X)), (2, .long (nowV ρ)), (4, .long (lN (ρ 0))), (14, .int (nI (ρ 1))), (15, .int (nI m)), (16, .int (nI 1)), (21, .long (lN (runN m ρ 5 - ρ 5)))] ⟨rfl, rfl, rfl, rfl, rfl, rfl, rfl, rfl, trivial⟩ ?_
    refine x_room (k := k0) (n := n0) (by omega) (by omega) ?_
    exact kk _ h

theorem fo_9 {G : GT} {C : AH} {Q : QT} {C0 : AH} {sa va : Nat → Nat} {x T n m X : Nat} {S : Nat → Nat} {ρ : Rw} {L : List Rw} {K : Nat → Option Rw} (hN : GN G) (hO : GO G) (hX : GX G sa va) (hT : T ≤ 40000) (hK9 : K 1 = some ρ) (h : RF T C0 C x (S, n, ρ, L, K)) (hq : ∀ C' : AH, RF T C0 C' x (S, n, ρ, [], K) → Q (some (.int 1)) C') : Ex G M_L_follows Q NX (223) (1340) 1005 [(0, .ref x), (1, .int (nI X)), (2, .long (nowV ρ)), (4, .long (lN (ρ 0))), (14, .int (nI (ρ 1))), (15, .int (nI m)), (16, .int (nI 1)), (21, .long (lN (runN m ρ 5 - ρ 5)))] [] C := by
  refine x_iload dL_follows_1005 rfl ?_
  refine x_if_eqN (tgt := 1045) dL_follows_1007 (by decide) (by decide) ?_
  refine x_aload_n dL_follows_1010 rfl ?_
  refine x_iconst (v := nI 1) dL_follows_1011 (by decide) ?_
  refine x_cX (c9 := 2) (s9 := 12) (As := [_, _]) hO dL_follows_1012 o_L_restore s_L_restore l_L_156 ⟨by decide, by decide⟩ ⟨rfl, rfl⟩ ⟨by omega, by omega⟩ rfl rfl (Nat.le_of_ble_eq_true rfl) (y_restore hN hO hX hT hK9 h (fun C1 h => ?_))
  dsimp only [Option.toList, List.cons_append, List.nil_append]
  refine x_lload dL_follows_1015 rfl ?_
  refine x_lc_neN (tgt := 1045) dL_follows_1017 dL_follows_1018 (by decide) rfl ?_
  refine x_aload_n dL_follows_1021 rfl ?_
  refine x_cS (c9 := 220) (s9 := 1320) (As := [_]) hO dL_follows_1022 o_L_now s_L_now l_L_115 ⟨by decide, by decide⟩ ⟨rfl, rfl⟩ ⟨by omega, by omega⟩ rfl rfl (Nat.le_of_ble_eq_true rfl) (m_now hN hO hX hT h (fun C1 h => ?_))
  dsimp only [Option.toList, List.cons_append, List.nil_append]
  refine x_lload_n dL_follows_1025 rfl ?_
  refine x_lc_neN (tgt := 1045) dL_follows_1026 dL_follows_1027 (by decide) rfl ?_
  refine x_aload_n dL_follows_1030 rfl ?_
  refine x_cX (c9 := 1) (s9 := 6) (As := [_]) hO dL_follows_1031 o_L_undo s_L_undo l_L_197 ⟨by decide, by decide⟩ ⟨rfl, rfl⟩ ⟨by omega, by omega⟩ rfl rfl (Nat.le_of_ble_eq_true rfl) (z_undo hN hO hX hT h (k9 := 1) rfl (lw_1 rfl) (fun C1 h => ?_))
  dsimp only [Option.toList, List.cons_append, List.nil_append]
  refine x_ldc2 hO.1 dL_follows_1034 k_L_21 ?_
  refine x_lc_neN (tgt := 1045) dL_follows_1037 dL_follows_1038 (by decide) rfl ?_
  refine x_iconst (v := nI 1) dL_follows_1041 (by decide) ?_
  refine x_goto (tgt := 1046) dL_follows_1042 (by decide) ?_
  refine x_iret dL_follows_1046 rfl (by first | rfl | assumption) ?_
  exact hq _ h

theorem m_follows {G : GT} {C : AH} {Q : QT} {C0 : AH} {sa va : Nat → Nat} {x T n X : Nat} {S : Nat → Nat} {ρ : Rw} {L : List Rw} {K : Nat → Option Rw} (hN : GN G) (hO : GO G) (hX : GX G sa va) (hT : T ≤ 40000) (hT2 : T + 48 ≤ 40000) (hX9 : X < 2 ^ 31) (h : RF T C0 C x (S, n, ρ, L, K)) (hq : ∀ C' : AH, RF (T + 48) C0 C' x (S, n, ρ, [], (fun i => if i = 1 then some ρ else K i)) → Q (some (.int 1)) C') : Mt G M_L_follows [.ref x, .int (nI X)] C Q NX := by
  refine Mt_of (by decide) (Nat.le_of_ble_eq_true rfl) ?_
  have hk : Ok T ρ := h.1.1.1
  obtain ⟨hW, hB⟩ := id hk
  obtain ⟨w1, w2, w7, w8, w9, w10, w11, w11', w12, wB, wP⟩ := id hW
  have hL : L.length ≤ 14 := h.1.1.2.2.2.2.2
  obtain ⟨m, hm⟩ : ∃ m, m = (1 + X % 24) := ⟨_, rfl⟩
  have h1 : 1 ≤ m := by omega
  have h2 : m ≤ 24 := by omega
  refine x_room (k := 2600) (n := 16000) (by decide) (by decide) ?_
  refine x_aload_n dL_follows_0 rfl ?_
  refine x_cS (c9 := 220) (s9 := 1320) (As := [_]) hO dL_follows_1 o_L_now s_L_now l_L_115 ⟨by decide, by decide⟩ ⟨rfl, rfl⟩ ⟨by omega, by omega⟩ rfl rfl (Nat.le_of_ble_eq_true rfl) (m_now hN hO hX hT h (fun C1 h => ?_))
  dsimp only [Option.toList, List.cons_append, List.nil_append]
  refine x_lstore_n dL_follows_4 (by decide) ?_
  refine x_aload_n dL_follows_5 rfl ?_
  refine x_iconst (v := nI 2) dL_follows_6 (by decide) ?_
  refine x_cX (c9 := 1) (s9 := 6) (As := [_, _]) hO dL_follows_7 o_L_about s_L_about l_L_103 ⟨by decide, by decide⟩ ⟨rfl, rfl⟩ ⟨by omega, by omega⟩ rfl rfl (Nat.le_of_ble_eq_true rfl) (q_aboN hN hO hX hT (by decide) (z := ρ 0) rfl h (fun C1 h => ?_))
  dsimp only [Option.toList, List.cons_append, List.nil_append]
  refine x_lstore dL_follows_10 (by decide) ?_
  refine x_aload_n dL_follows_12 rfl ?_
  refine x_iconst (v := nI 3) dL_follows_13 (by decide) ?_
  refine x_cX (c9 := 1) (s9 := 6) (As := [_, _]) hO dL_follows_14 o_L_about s_L_about l_L_103 ⟨by decide, by decide⟩ ⟨rfl, rfl⟩ ⟨by omega, by omega⟩ rfl rfl (Nat.le_of_ble_eq_true rfl) (q_aboN hN hO hX hT (by decide) (z := ρ 3) rfl h (fun C1 h => ?_))
  dsimp only [Option.toList, List.cons_append, List.nil_append]
  refine x_lstore dL_follows_17 (by decide) ?_
  refine x_aload_n dL_follows_19 rfl ?_
  refine x_iconst (v := nI 4) dL_follows_20 (by decide) ?_
  refine x_cX (c9 := 1) (s9 := 6) (As := [_, _]) hO dL_follows_21 o_L_about s_L_about l_L_103 ⟨by decide, by decide⟩ ⟨rfl, rfl⟩ ⟨by omega, by omega⟩ rfl rfl (Nat.le_of_ble_eq_true rfl) (q_aboN hN hO hX hT (by decide) (z := ρ 4) rfl h (fun C1 h => ?_))
  dsimp only [Option.toList, List.cons_append, List.nil_append]
  refine x_lstore dL_follows_24 (by decide) ?_
  refine x_aload_n dL_follows_26 rfl ?_
  refine x_iconst (v := nI 5) dL_follows_27 (by decide) ?_
  refine x_cX (c9 := 1) (s9 := 6) (As := [_, _]) hO dL_follows_28 o_L_about s_L_about l_L_103 ⟨by decide, by decide⟩ ⟨rfl, rfl⟩ ⟨by omega, by omega⟩ rfl rfl (Nat.le_of_ble_eq_true rfl) (q_aboN hN hO hX hT (by decide) (z := ρ 5) rfl h (fun C1 h => ?_))
  dsimp only [Option.toList, List.cons_append, List.nil_append]
  refine x_lstore dL_follows_31 (by decide) ?_
  refine x_aload_n dL_follows_33 rfl ?_
  refine x_bipush (v := nI 6) dL_follows_34 (by decide) ?_
  refine x_cX (c9 := 1) (s9 := 6) (As := [_, _]) hO dL_follows_36 o_L_about s_L_about l_L_103 ⟨by decide, by decide⟩ ⟨rfl, rfl⟩ ⟨by omega, by omega⟩ rfl rfl (Nat.le_of_ble_eq_true rfl) (q_aboN hN hO hX hT (by decide) (z := ρ 6) rfl h (fun C1 h => ?_))
  dsimp only [Option.toList, List.cons_append, List.nil_append]
  refine x_lstore dL_follows_39 (by decide) ?_
  refine x_aload_n dL_follows_41 rfl ?_
  refine x_iconst (v := nI 0) dL_follows_42 (by decide) ?_
  refine x_cX (c9 := 1) (s9 := 6) (As := [_, _]) hO dL_follows_43 o_L_about s_L_about l_L_103 ⟨by decide, by decide⟩ ⟨rfl, rfl⟩ ⟨by omega, by omega⟩ rfl rfl (Nat.le_of_ble_eq_true rfl) (q_aboN hN hO hX hT (by decide) (z := ρ 1) rfl h (fun C1 h => ?_))
  dsimp only [Option.toList, List.cons_append, List.nil_append]
  refine x_l2i dL_follows_46 ?_
  rw [lN_i]
  refine x_istore dL_follows_47 (by decide) ?_
  refine x_iconst (v := nI 1) dL_follows_49 (by decide) ?_
  refine x_iload_n dL_follows_50 rfl ?_
  refine x_bipush (v := nI 24) dL_follows_51 (by decide) ?_
  refine x_irem dL_follows_53 (by decide) ?_
  rw [pk_rem hX9 (by decide) (by decide)]
  refine x_iadd dL_follows_54 ?_
  rw [nI_add, ← hm]
  refine x_istore dL_follows_55 (by decide) ?_
  refine x_ls [(0, .ref x), (1, .int (nI X)), (2, .long (nowV ρ)), (4, .long (lN (ρ 0))), (6, .long (lN (ρ 3))), (8, .long (lN (ρ 4))), (10, .long (lN (ρ 5))), (12, .long (lN (ρ 6))), (14, .int (nI (ρ 1))), (15, .int (nI m))] ⟨rfl, rfl, rfl, rfl, rfl, rfl, rfl, rfl, rfl, rfl, trivial⟩ ?_
  refine x_aload_n dL_follows_57 rfl ?_
  refine x_iconst (v := nI 1) dL_follows_58 (by decide) ?_
  refine x_cX (c9 := 1) (s9 := 6) (As := [_, _]) hO dL_follows_59 o_L_save s_L_save l_L_154 ⟨by decide, by decide⟩ ⟨rfl, rfl⟩ ⟨by omega, by omega⟩ rfl rfl (Nat.le_of_ble_eq_true rfl) (y_save hN hO hX hT h (fun C1 h => ?_))
  dsimp only [Option.toList, List.cons_append, List.nil_append]
  refine x_lload dL_follows_62 rfl ?_
  refine x_lc_neN (tgt := 99) dL_follows_64 dL_follows_65 (by decide) rfl ?_
  refine x_aload_n dL_follows_68 rfl ?_
  refine x_iload_n dL_follows_69 rfl ?_
  refine x_i2l dL_follows_70 ?_
  refine x_iconst (v := nI 5) dL_follows_71 (by decide) ?_
  refine x_cX (c9 := 1) (s9 := 6) (As := [_, _, _]) hO dL_follows_72 o_L_simulate s_L_simulate l_L_151 ⟨by decide, by decide⟩ ⟨rfl, rfl⟩ ⟨by omega, by omega⟩ rfl rfl (Nat.le_of_ble_eq_true rfl) (q_simulate hN hO hX hT h (fun C1 h => ?_))
  dsimp only [Option.toList, List.cons_append, List.nil_append]
  refine x_aload_n dL_follows_75 rfl ?_
  refine x_iload_n dL_follows_76 rfl ?_
  refine x_i2l dL_follows_77 ?_
  refine x_iconst (v := nI 5) dL_follows_78 (by decide) ?_
  refine x_cX (c9 := 1) (s9 := 6) (As := [_, _, _]) hO dL_follows_79 o_L_simulate s_L_simulate l_L_151 ⟨by decide, by decide⟩ ⟨rfl, rfl⟩ ⟨by omega, by omega⟩ rfl rfl (Nat.le_of_ble_eq_true rfl) (q_simulate hN hO hX hT h (fun C1 h => ?_))
  dsimp only [Option.toList, List.cons_append, List.nil_append]
  refine x_lc_neN (tgt := 99) dL_follows_82 dL_follows_83 (by decide) rfl ?_
  refine x_aload_n dL_follows_86 rfl ?_
  refine x_cS (c9 := 220) (s9 := 1320) (As := [_]) hO dL_follows_87 o_L_now s_L_now l_L_115 ⟨by decide, by decide⟩ ⟨rfl, rfl⟩ ⟨by omega, by omega⟩ rfl rfl (Nat.le_of_ble_eq_true rfl) (m_now hN hO hX hT h (fun C1 h => ?_))
  dsimp only [Option.toList, List.cons_append, List.nil_append]
  refine x_lload_n dL_follows_90 rfl ?_
  refine x_lc_neN (tgt := 99) dL_follows_91 dL_follows_92 (by decide) rfl ?_
  refine x_iconst (v := nI 1) dL_follows_95 (by decide) ?_
  refine x_goto (tgt := 100) dL_follows_96 (by decide) ?_
  refine x_istore dL_follows_100 (by decide) ?_
  refine x_aload_n dL_follows_102 rfl ?_
  refine x_iload dL_follows_103 rfl ?_
  refine x_iconst (v := nI 0) dL_follows_105 (by decide) ?_
  refine x_cX (c9 := 2) (s9 := 12) (As := [_, _, _]) hO dL_follows_106 o_L_coming s_L_coming l_L_137 ⟨by decide, by decide⟩ ⟨rfl, rfl⟩ ⟨by omega, by omega⟩ rfl rfl (Nat.le_of_ble_eq_true rfl) (q_comN hN hO hX hT h1 (by omega) (by decide) (k := 0) (z := runN m ρ 3 - ρ 3) rfl h (fun C1 h => ?_))
  dsimp only [Option.toList, List.cons_append, List.nil_append]
  refine x_lstore dL_follows_109 (by decide) ?_
  refine x_aload_n dL_follows_111 rfl ?_
  refine x_iload dL_follows_112 rfl ?_
  refine x_iconst (v := nI 1) dL_follows_114 (by decide) ?_
  refine x_cX (c9 := 2) (s9 := 12) (As := [_, _, _]) hO dL_follows_115 o_L_coming s_L_coming l_L_137 ⟨by decide, by decide⟩ ⟨rfl, rfl⟩ ⟨by omega, by omega⟩ rfl rfl (Nat.le_of_ble_eq_true rfl) (q_comN hN hO hX hT h1 (by omega) (by decide) (k := 1) (z := runN m ρ 4 - ρ 4) rfl h (fun C1 h => ?_))
  dsimp only [Option.toList, List.cons_append, List.nil_append]
  refine x_lstore dL_follows_118 (by decide) ?_
  refine x_aload_n dL_follows_120 rfl ?_
  refine x_iload dL_follows_121 rfl ?_
  refine x_iconst (v := nI 2) dL_follows_123 (by decide) ?_
  refine x_cX (c9 := 2) (s9 := 12) (As := [_, _, _]) hO dL_follows_124 o_L_coming s_L_coming l_L_137 ⟨by decide, by decide⟩ ⟨rfl, rfl⟩ ⟨by omega, by omega⟩ rfl rfl (Nat.le_of_ble_eq_true rfl) (q_comN hN hO hX hT h1 (by omega) (by decide) (k := 2) (z := runN m ρ 5 - ρ 5) rfl h (fun C1 h => ?_))
  dsimp only [Option.toList, List.cons_append, List.nil_append]
  refine x_lstore dL_follows_127 (by decide) ?_
  refine x_aload_n dL_follows_129 rfl ?_
  refine x_iload dL_follows_130 rfl ?_
  refine x_iconst (v := nI 3) dL_follows_132 (by decide) ?_
  refine x_cX (c9 := 2) (s9 := 12) (As := [_, _, _]) hO dL_follows_133 o_L_coming s_L_coming l_L_137 ⟨by decide, by decide⟩ ⟨rfl, rfl⟩ ⟨by omega, by omega⟩ rfl rfl (Nat.le_of_ble_eq_true rfl) (q_comN hN hO hX hT h1 (by omega) (by decide) (k := 3) (z := runN m ρ 6 - ρ 6) rfl h (fun C1 h => ?_))
  dsimp only [Option.toList, List.cons_append, List.nil_append]
  refine x_lstore dL_follows_136 (by decide) ?_
  refine x_ls [(0, .ref x), (1, .int (nI X)), (2, .long (nowV ρ)), (4, .long (lN (ρ 0))), (6, .long (lN (ρ 3))), (8, .long (lN (ρ 4))), (10, .long (lN (ρ 5))), (12, .long (lN (ρ 6))), (14, .int (nI (ρ 1))), (15, .int (nI m)), (16, .int (nI 1)), (17, .long (lN (runN m ρ 3 - ρ 3))), (19, .long (lN (runN m ρ 4 - ρ 4))), (21, .long (lN (runN m ρ 5 - ρ 5))), (23, .long (lN (runN m ρ 6 - ρ 6)))] ⟨rfl, rfl, rfl, rfl, rfl, rfl, rfl, rfl, rfl, rfl, rfl, rfl, rfl, rfl, rfl, trivial⟩ ?_
  refine x_iload dL_follows_138 rfl ?_
  refine x_if_eqN (tgt := 249) dL_follows_140 (by decide) (by decide) ?_
  refine x_aload_n dL_follows_143 rfl ?_
  refine x_iload dL_follows_144 rfl ?_
  refine x_cX (c9 := 1) (s9 := 6) (As := [_, _]) hO dL_follows_146 o_L_run s_L_run l_L_133 ⟨by decide, by decide⟩ ⟨rfl, rfl⟩ ⟨by omega, by omega⟩ rfl rfl (Nat.le_of_ble_eq_true rfl) (y_run hN hO hX hT h1 (by omega) h (fun C1 h => ?_))
  dsimp only [Option.toList, List.cons_append, List.nil_append]
  refine x_lload dL_follows_149 rfl ?_
  refine x_lc_neN (tgt := 249) dL_follows_151 dL_follows_152 (by decide) rfl ?_
  refine x_aload_n dL_follows_155 rfl ?_
  refine x_iconst (v := nI 2) dL_follows_156 (by decide) ?_
  refine x_cX (c9 := 1) (s9 := 6) (As := [_, _]) hO dL_follows_157 o_L_about s_L_about l_L_103 ⟨by decide, by decide⟩ ⟨rfl, rfl⟩ ⟨by omega, by omega⟩ rfl rfl (Nat.le_of_ble_eq_true rfl) (q_aboN hN hO hX hT2 (by decide) (z := ρ 0 + m) runN_0 h (fun C1 h => ?_))
  dsimp only [Option.toList, List.cons_append, List.nil_append]
  refine x_lload dL_follows_160 rfl ?_
  refine x_iload dL_follows_162 rfl ?_
  refine x_i2l dL_follows_164 ?_
  rw [nI_l (show m < 2 ^ 31 by omega)]
  refine x_ladd dL_follows_165 ?_
  rw [lN_add (ρ 0) m]
  refine x_lc_neN (tgt := 249) dL_follows_166 dL_follows_167 (by decide) rfl ?_
  refine x_aload_n dL_follows_170 rfl ?_
  refine x_iconst (v := nI 3) dL_follows_171 (by decide) ?_
  refine x_cX (c9 := 1) (s9 := 6) (As := [_, _]) hO dL_follows_172 o_L_about s_L_about l_L_103 ⟨by decide, by decide⟩ ⟨rfl, rfl⟩ ⟨by omega, by omega⟩ rfl rfl (Nat.le_of_ble_eq_true rfl) (q_aboN hN hO hX hT2 (by decide) (z := runN m ρ 3) rfl h (fun C1 h => ?_))
  dsimp only [Option.toList, List.cons_append, List.nil_append]
  refine x_lload dL_follows_175 rfl ?_
  refine x_lload dL_follows_177 rfl ?_
  refine x_ladd dL_follows_179 ?_
  rw [lN_add (ρ 3) _, show ρ 3 + (runN m ρ 3 - ρ 3) = runN m ρ 3 from Nat.add_sub_cancel' (runN_up (k := 0) (by decide))]
  refine x_lc_neN (tgt := 249) dL_follows_180 dL_follows_181 (by decide) rfl ?_
  refine x_aload_n dL_follows_184 rfl ?_
  refine x_iconst (v := nI 4) dL_follows_185 (by decide) ?_
  refine x_cX (c9 := 1) (s9 := 6) (As := [_, _]) hO dL_follows_186 o_L_about s_L_about l_L_103 ⟨by decide, by decide⟩ ⟨rfl, rfl⟩ ⟨by omega, by omega⟩ rfl rfl (Nat.le_of_ble_eq_true rfl) (q_aboN hN hO hX hT2 (by decide) (z := runN m ρ 4) rfl h (fun C1 h => ?_))
  dsimp only [Option.toList, List.cons_append, List.nil_append]
  refine x_lload dL_follows_189 rfl ?_
  refine x_lload dL_follows_191 rfl ?_
  refine x_ladd dL_follows_193 ?_
  rw [lN_add (ρ 4) _, show ρ 4 + (runN m ρ 4 - ρ 4) = runN m ρ 4 from Nat.add_sub_cancel' (runN_up (k := 1) (by decide))]
  refine x_lc_neN (tgt := 249) dL_follows_194 dL_follows_195 (by decide) rfl ?_
  refine x_aload_n dL_follows_198 rfl ?_
  refine x_iconst (v := nI 5) dL_follows_199 (by decide) ?_
  refine x_cX (c9 := 1) (s9 := 6) (As := [_, _]) hO dL_follows_200 o_L_about s_L_about l_L_103 ⟨by decide, by decide⟩ ⟨rfl, rfl⟩ ⟨by omega, by omega⟩ rfl rfl (Nat.le_of_ble_eq_true rfl) (q_aboN hN hO hX hT2 (by decide) (z := runN m ρ 5) rfl h (fun C1 h => ?_))
  dsimp only [Option.toList, List.cons_append, List.nil_append]
  refine x_lload dL_follows_203 rfl ?_
  refine x_lload dL_follows_205 rfl ?_
  refine x_ladd dL_follows_207 ?_
  rw [lN_add (ρ 5) _, show ρ 5 + (runN m ρ 5 - ρ 5) = runN m ρ 5 from Nat.add_sub_cancel' (runN_up (k := 2) (by decide))]
  refine x_lc_neN (tgt := 249) dL_follows_208 dL_follows_209 (by decide) rfl ?_
  refine x_aload_n dL_follows_212 rfl ?_
  refine x_bipush (v := nI 6) dL_follows_213 (by decide) ?_
  refine x_cX (c9 := 1) (s9 := 6) (As := [_, _]) hO dL_follows_215 o_L_about s_L_about l_L_103 ⟨by decide, by decide⟩ ⟨rfl, rfl⟩ ⟨by omega, by omega⟩ rfl rfl (Nat.le_of_ble_eq_true rfl) (q_aboN hN hO hX hT2 (by decide) (z := runN m ρ 6) rfl h (fun C1 h => ?_))
  dsimp only [Option.toList, List.cons_append, List.nil_append]
  refine x_lload dL_follows_218 rfl ?_
  refine x_lload dL_follows_220 rfl ?_
  refine x_ladd dL_follows_222 ?_
  rw [lN_add (ρ 6) _, show ρ 6 + (runN m ρ 6 - ρ 6) = runN m ρ 6 from Nat.add_sub_cancel' (runN_up (k := 3) (by decide))]
  refine x_lc_neN (tgt := 249) dL_follows_223 dL_follows_224 (by decide) rfl ?_
  refine x_aload_n dL_follows_227 rfl ?_
  refine x_cX (c9 := 1) (s9 := 6) (As := [_]) hO dL_follows_228 o_L_undo s_L_undo l_L_197 ⟨by decide, by decide⟩ ⟨rfl, rfl⟩ ⟨by omega, by omega⟩ rfl rfl (Nat.le_of_ble_eq_true rfl) (y_undo hN hO hX hT2 hL h (fun j9 C1 hj h => ?_))
  dsimp only [Option.toList, List.cons_append, List.nil_append]
  refine x_lconst (v := 0) dL_follows_231 (by decide) ?_
  refine x_lc_ltN (tgt := 249) dL_follows_232 dL_follows_233 (by decide) (lnn (by omega)) ?_
  refine x_aload_n dL_follows_236 rfl ?_
  refine x_cS (c9 := 220) (s9 := 1320) (As := [_]) hO dL_follows_237 o_L_now s_L_now l_L_115 ⟨by decide, by decide⟩ ⟨rfl, rfl⟩ ⟨by omega, by omega⟩ rfl rfl (Nat.le_of_ble_eq_true rfl) (m_now hN hO hX hT2 h (fun C1 h => ?_))
  dsimp only [Option.toList, List.cons_append, List.nil_append]
  refine x_lload_n dL_follows_240 rfl ?_
  refine x_lc_neN (tgt := 249) dL_follows_241 dL_follows_242 (by decide) rfl ?_
  refine x_iconst (v := nI 1) dL_follows_245 (by decide) ?_
  refine x_goto (tgt := 250) dL_follows_246 (by decide) ?_
  refine x_istore dL_follows_250 (by decide) ?_
  refine x_ls [(0, .ref x), (1, .int (nI X)), (2, .long (nowV ρ)), (4, .long (lN (ρ 0))), (14, .int (nI (ρ 1))), (15, .int (nI m)), (16, .int (nI 1)), (21, .long (lN (runN m ρ 5 - ρ 5)))] ⟨rfl, rfl, rfl, rfl, rfl, rfl, rfl, rfl, trivial⟩ ?_
  refine x_iconst (v := nI 0) dL_follows_252 (by decide) ?_
  refine x_istore dL_follows_253 (by decide) ?_
  refine x_iconst (v := nI 0) dL_follows_255 (by decide) ?_
  refine x_istore dL_follows_256 (by decide) ?_
  refine x_ls [(0, .ref x), (1, .int (nI X)), (2, .long (nowV ρ)), (4, .long (lN (ρ 0))), (14, .int (nI (ρ 1))), (15, .int (nI m)), (16, .int (nI 1)), (21, .long (lN (runN m ρ 5 - ρ 5))), (25, .int (nI 0)), (26, .int (nI 0))] ⟨rfl, rfl, rfl, rfl, rfl, rfl, rfl, rfl, rfl, rfl, trivial⟩ ?_
  refine x_room (k := 5 * ρ 1 + (0 + (240 + (250 + (235 + (240 + 223)))))) (n := 30 * ρ 1 + (0 + (1500 + (1560 + (1440 + (1460 + 1340)))))) (by omega) (by omega) ?_
  have hl9 := dl_len hL
  refine fo_2 hN hO hX hT2 h1 h2 hl9 w1 (ρ 1) 0 0 _ (by omega) (Or.inr ⟨rfl, fun ⟨j, hj, _⟩ => absurd hj (Nat.not_lt_zero j)⟩) h (fun a9 C1 ha9 h => ?_)
  refine fo_3 hN hO hX hT2 h1 h2 hl9 ha9 h (fun C2 h => ?_)
  refine fo_4 hN hO hX hT2 h1 h2 hl9 h (fun C3 h => ?_)
  refine fo_6 hN hO hX hT2 h1 h2 hl9 hX9 h (fun C4 h => ?_)
  refine fo_7 hN hO hX hT2 h1 h2 hl9 hX9 h (fun C5 h => ?_)
  refine fo_8 hN hO hX hT2 h1 h2 hl9 hX9 h (fun C6 h => ?_)
  exact fo_9 hN hO hX hT2 rfl h hq

