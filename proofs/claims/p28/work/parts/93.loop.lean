/-! THE LAW: its loop -/
abbrev M_law (nm : String) : MI := (⟨RL, nm, "([I)Z"⟩, cL_law, 7, ret, 17, 718, 865661, 6504714)
theorem m_draw {G : GT} {C : AH} {Q : QT} {b k N : Nat} {xs : Nat → Int32} (hO : GO G) (hb : eT G .int b N (fun j => .int (xs j))) (hL : N ≤ 260) (hk : k < 1000) (hq : ∀ z : Nat, z < 2 ^ 31 → Q (some (.int (nI z))) C) : Mt G M_L_draw [.ref b, .int (nI k)] C Q NX := by
  refine Mt_of (by decide) (Nat.le_of_ble_eq_true rfl) ?_
  by_cases hc : k < N
  · skip
    refine x_iload_n dL_draw_0 rfl ?_
    refine x_aload_n dL_draw_1 rfl ?_
    refine x_tlen hb dL_draw_2 ?_
    refine x_icmp_geN (tgt := 12) dL_draw_3 (by decide) (nI_ge hc (by omega)) ?_
    refine x_aload_n dL_draw_6 rfl ?_
    refine x_iload_n dL_draw_7 rfl ?_
    refine x_tald _ hb dL_draw_8 rfl (by omega) (by omega) ?_
    refine x_goto (tgt := 20) dL_draw_9 (by decide) ?_
    refine x_ldc hO.1 dL_draw_20 k_L_8 ?_
    refine x_iand dL_draw_22 ?_
    obtain ⟨z, hz, ez⟩ := pk_andE (xs k) (m := 2147483647) 31 (by decide)
    rw [ez]
    refine x_iret dL_draw_23 rfl rfl ?_
    exact hq z hz
  · skip
    refine x_iload_n dL_draw_0 rfl ?_
    refine x_aload_n dL_draw_1 rfl ?_
    refine x_tlen hb dL_draw_2 ?_
    refine x_icmp_geT (tgt := 12) dL_draw_3 (by decide) (nI_le (by omega) (by omega)) ?_
    refine x_ldc hO.1 dL_draw_12 k_L_7 ?_
    refine x_iload_n dL_draw_14 rfl ?_
    refine x_imul dL_draw_15 ?_
    refine x_sipush (v := nI 10631) dL_draw_16 (by decide) ?_
    refine x_iadd dL_draw_19 ?_
    refine x_ldc hO.1 dL_draw_20 k_L_8 ?_
    refine x_iand dL_draw_22 ?_
    obtain ⟨z, hz, ez⟩ := pk_andE (15593933 * nI k + nI 10631) (m := 2147483647) 31 (by decide)
    rw [ez]
    refine x_iret dL_draw_23 rfl rfl ?_
    exact hq z hz

theorem la_A {nm : String} {G : GT} {C : AH} {Q : QT} {sa va : Nat → Nat} {x y b T n i X Y k0 n0 : Nat} {S : Nat → Nat} {ρ : Rw} {L : List Rw} {K : Nat → Option Rw} (hN : GN G) (hO : GO G) (hX : GX G sa va) (hT : T ≤ 39000) (hi : i < 48) (h : TW T C x y (S, n, ρ, L, K) (S, n, ρ, L, K)) (kk : ∀ C' : AH, TW (T) C' x y (S, n, ρ, L, K) (S, n, ρ, L, K) → Ex G (M_law nm) Q NX (k0) (n0) 195 [(0, .ref b), (1, .ref x), (2, .ref y), (3, .int (nI 1)), (4, .int (nI i)), (5, .int (nI X)), (6, .int (nI Y))] [] C') : Ex G (M_law nm) Q NX (3000 + k0) (20400 + n0) 162 [(0, .ref b), (1, .ref x), (2, .ref y), (3, .int (nI 1)), (4, .int (nI i)), (5, .int (nI X)), (6, .int (nI Y))] [] C := by
  by_cases c9 : i % 9 = 1
  · skip
    refine x_iload dL_law_162 rfl ?_
    refine x_bipush (v := nI 9) dL_law_164 (by decide) ?_
    refine x_irem dL_law_166 (by decide) ?_
    rw [pk_rem (by omega) (by decide) (by decide)]
    refine x_iconst (v := nI 1) dL_law_167 (by decide) ?_
    refine x_icmp_neN (tgt := 195) dL_law_168 (by decide) (congrArg nI c9) ?_
    refine x_iload_n dL_law_171 rfl ?_
    refine x_if_eqN (tgt := 193) dL_law_172 (by decide) (by decide) ?_
    refine x_aload_n dL_law_175 rfl ?_
    refine x_cS (c9 := 1000) (s9 := 6400) (As := [_]) hO dL_law_176 o_L_errors s_L_errors l_L_230 ⟨Nat.le_of_ble_eq_true rfl, Nat.le_of_ble_eq_true rfl⟩ ⟨rfl, rfl⟩ ⟨by omega, by omega⟩ rfl rfl (Nat.le_of_ble_eq_true rfl) (m_errors hN hO hX (Nat.le_trans hT (by decide)) (RF_refl h.2.1) (fun C1 hf => ?_))
    dsimp only [Option.toList, List.cons_append, List.nil_append]
    have h := TW_2 h hf (by omega)
    refine x_if_eqN (tgt := 193) dL_law_179 (by decide) (by decide) ?_
    refine x_aload_n dL_law_182 rfl ?_
    refine x_cS (c9 := 2000) (s9 := 14000) (As := [_]) hO dL_law_183 o_L_kept s_L_kept l_L_234 ⟨Nat.le_of_ble_eq_true rfl, Nat.le_of_ble_eq_true rfl⟩ ⟨rfl, rfl⟩ ⟨by omega, by omega⟩ rfl rfl (Nat.le_of_ble_eq_true rfl) (m_kept hN hO hX (Nat.le_trans hT (by decide)) (RF_refl h.2.1) (fun C1 hf => ?_))
    dsimp only [Option.toList, List.cons_append, List.nil_append]
    have h := TW_2 h hf (by omega)
    refine x_if_eqN (tgt := 193) dL_law_186 (by decide) (by decide) ?_
    refine x_iconst (v := nI 1) dL_law_189 (by decide) ?_
    refine x_goto (tgt := 194) dL_law_190 (by decide) ?_
    refine x_istore_n dL_law_194 (Nat.le_of_ble_eq_true rfl) ?_
    refine x_ls [(0, .ref b), (1, .ref x), (2, .ref y), (3, .int (nI 1)), (4, .int (nI i)), (5, .int (nI X)), (6, .int (nI Y))] ⟨rfl, rfl, rfl, rfl, rfl, rfl, rfl, trivial⟩ ?_
    refine x_room (k := k0) (n := n0) (by omega) (by omega) ?_
    exact kk _ h
  · skip
    refine x_iload dL_law_162 rfl ?_
    refine x_bipush (v := nI 9) dL_law_164 (by decide) ?_
    refine x_irem dL_law_166 (by decide) ?_
    rw [pk_rem (by omega) (by decide) (by decide)]
    refine x_iconst (v := nI 1) dL_law_167 (by decide) ?_
    refine x_icmp_neT (tgt := 195) dL_law_168 (by decide) (fun q => c9 ((nI_eq (by omega) (by decide)).mp q)) ?_
    refine x_ls [(0, .ref b), (1, .ref x), (2, .ref y), (3, .int (nI 1)), (4, .int (nI i)), (5, .int (nI X)), (6, .int (nI Y))] ⟨rfl, rfl, rfl, rfl, rfl, rfl, rfl, trivial⟩ ?_
    refine x_room (k := k0) (n := n0) (by omega) (by omega) ?_
    exact kk _ h

theorem la_B {nm : String} {G : GT} {C : AH} {Q : QT} {sa va : Nat → Nat} {x y b T n i X Y k0 n0 : Nat} {S : Nat → Nat} {ρ : Rw} {L : List Rw} {K : Nat → Option Rw} (hN : GN G) (hO : GO G) (hX : GX G sa va) (hT : T ≤ 39000) (hi : i < 48) (hY9 : Y < 2 ^ 31) (h : TW T C x y (S, n, ρ, L, K) (S, n, ρ, L, K)) (kk : ∀ (S9 : Nat → Nat) (n9 : Nat) (ρ9 : Rw) (L9 : List Rw) (K9 : Nat → Option Rw) (C' : AH), TW (T + 48) C' x y (S9, n9, ρ9, L9, K9) (S9, n9, ρ9, L9, K9) → Ex G (M_law nm) Q NX (k0) (n0) 244 [(0, .ref b), (1, .ref x), (2, .ref y), (3, .int (nI 1)), (4, .int (nI i)), (5, .int (nI X)), (6, .int (nI Y))] [] C') : Ex G (M_law nm) Q NX (2604 + k0) (16024 + n0) 195 [(0, .ref b), (1, .ref x), (2, .ref y), (3, .int (nI 1)), (4, .int (nI i)), (5, .int (nI X)), (6, .int (nI Y))] [] C := by
  by_cases c9 : i % 16 = 13
  · skip
    refine x_iload dL_law_195 rfl ?_
    refine x_bipush (v := nI 16) dL_law_197 (by decide) ?_
    refine x_irem dL_law_199 (by decide) ?_
    rw [pk_rem (by omega) (by decide) (by decide)]
    refine x_bipush (v := nI 13) dL_law_200 (by decide) ?_
    refine x_icmp_neN (tgt := 244) dL_law_202 (by decide) (congrArg nI c9) ?_
    refine x_iload_n dL_law_205 rfl ?_
    refine x_if_eqN (tgt := 242) dL_law_206 (by decide) (by decide) ?_
    refine x_aload_n dL_law_209 rfl ?_
    refine x_iload dL_law_210 rfl ?_
    refine x_cS (c9 := 2600) (s9 := 16000) (As := [_, _]) hO dL_law_212 o_L_follows s_L_follows l_L_246 ⟨Nat.le_of_ble_eq_true rfl, Nat.le_of_ble_eq_true rfl⟩ ⟨rfl, rfl⟩ ⟨by omega, by omega⟩ rfl rfl (Nat.le_of_ble_eq_true rfl) (m_follows hN hO hX (Nat.le_trans hT (by decide)) (by omega) hY9 (RF_refl h.2.1) (fun C1 hf => ?_))
    dsimp only [Option.toList, List.cons_append, List.nil_append]
    have h := TW_2 h hf (by omega)
    refine x_if_eqN (tgt := 242) dL_law_215 (by decide) (by decide) ?_
    refine x_aload_n dL_law_218 rfl ?_
    refine x_iconst (v := nI 1) dL_law_219 (by decide) ?_
    refine x_cX (c9 := 1) (s9 := 6) (As := [_, _]) hO dL_law_220 o_L_save s_L_save l_L_154 ⟨Nat.le_of_ble_eq_true rfl, Nat.le_of_ble_eq_true rfl⟩ ⟨rfl, rfl⟩ ⟨by omega, by omega⟩ rfl rfl (Nat.le_of_ble_eq_true rfl) (y_save hN hO hX (by omega) (RF_refl h.1) (fun C1 hf => ?_))
    dsimp only [Option.toList, List.cons_append, List.nil_append]
    have h := TW_1 h hf (by omega)
    refine x_lconst (v := 0) dL_law_223 (by decide) ?_
    refine x_lc_ltN (tgt := 242) dL_law_224 dL_law_225 (by decide) (lnn (by have : ρ 0 ≤ T + 48 := (show Ok (T + 48) ρ from h.1.1.1).2.1; omega)) ?_
    refine x_aload_n dL_law_228 rfl ?_
    refine x_iconst (v := nI 1) dL_law_229 (by decide) ?_
    refine x_cX (c9 := 2) (s9 := 12) (As := [_, _]) hO dL_law_230 o_L_restore s_L_restore l_L_156 ⟨Nat.le_of_ble_eq_true rfl, Nat.le_of_ble_eq_true rfl⟩ ⟨rfl, rfl⟩ ⟨by omega, by omega⟩ rfl rfl (Nat.le_of_ble_eq_true rfl) (y_restore hN hO hX (by omega) (K := (fun i => if i = 1 then some ρ else K i)) (σ := ρ) rfl (RF_refl h.1) (fun C1 hf => ?_))
    dsimp only [Option.toList, List.cons_append, List.nil_append]
    have h := TW_1 h hf (by omega)
    refine x_lconst (v := 0) dL_law_233 (by decide) ?_
    refine x_lc_ltN (tgt := 242) dL_law_234 dL_law_235 (by decide) (lnn (by have : ρ 0 ≤ T + 48 := (show Ok (T + 48) ρ from h.1.1.1).2.1; omega)) ?_
    refine x_iconst (v := nI 1) dL_law_238 (by decide) ?_
    refine x_goto (tgt := 243) dL_law_239 (by decide) ?_
    refine x_istore_n dL_law_243 (Nat.le_of_ble_eq_true rfl) ?_
    refine x_ls [(0, .ref b), (1, .ref x), (2, .ref y), (3, .int (nI 1)), (4, .int (nI i)), (5, .int (nI X)), (6, .int (nI Y))] ⟨rfl, rfl, rfl, rfl, rfl, rfl, rfl, trivial⟩ ?_
    refine x_room (k := k0) (n := n0) (by omega) (by omega) ?_
    exact kk _ _ _ _ _ _ h
  · skip
    refine x_iload dL_law_195 rfl ?_
    refine x_bipush (v := nI 16) dL_law_197 (by decide) ?_
    refine x_irem dL_law_199 (by decide) ?_
    rw [pk_rem (by omega) (by decide) (by decide)]
    refine x_bipush (v := nI 13) dL_law_200 (by decide) ?_
    refine x_icmp_neT (tgt := 244) dL_law_202 (by decide) (fun q => c9 ((nI_eq (by omega) (by decide)).mp q)) ?_
    refine x_ls [(0, .ref b), (1, .ref x), (2, .ref y), (3, .int (nI 1)), (4, .int (nI i)), (5, .int (nI X)), (6, .int (nI Y))] ⟨rfl, rfl, rfl, rfl, rfl, rfl, rfl, trivial⟩ ?_
    refine x_room (k := k0) (n := n0) (by omega) (by omega) ?_
    exact kk _ _ _ _ _ _ (TW_mono h (by omega))

theorem la_C {nm : String} {G : GT} {C : AH} {Q : QT} {sa va : Nat → Nat} {x y b T n i X Y k0 n0 : Nat} {S : Nat → Nat} {ρ : Rw} {L : List Rw} {K : Nat → Option Rw} (hN : GN G) (hO : GO G) (hX : GX G sa va) (hT : T ≤ 39000) (hi : i < 48) (h : TW T C x y (S, n, ρ, L, K) (S, n, ρ, L, K)) (kk : ∀ C' : AH, TW (T) C' x y (S, n, ρ, L, K) (S, n, ρ, L, K) → Ex G (M_law nm) Q NX (k0) (n0) 272 [(0, .ref b), (1, .ref x), (2, .ref y), (3, .int (nI 1)), (4, .int (nI i)), (5, .int (nI X)), (6, .int (nI Y))] [] C') : Ex G (M_law nm) Q NX (600 + k0) (3800 + n0) 244 [(0, .ref b), (1, .ref x), (2, .ref y), (3, .int (nI 1)), (4, .int (nI i)), (5, .int (nI X)), (6, .int (nI Y))] [] C := by
  by_cases c9 : i % 16 = 0
  · skip
    refine x_iload_n dL_law_244 rfl ?_
    refine x_if_eqN (tgt := 270) dL_law_245 (by decide) (by decide) ?_
    refine x_iload dL_law_248 rfl ?_
    refine x_bipush (v := nI 16) dL_law_250 (by decide) ?_
    refine x_irem dL_law_252 (by decide) ?_
    rw [pk_rem (by omega) (by decide) (by decide)]
    refine x_if_gtN (tgt := 266) dL_law_253 (by decide) (by rw [c9]; decide) ?_
    refine x_aload_n dL_law_256 rfl ?_
    refine x_aload_n dL_law_257 rfl ?_
    refine x_iload dL_law_258 rfl ?_
    refine x_cS (c9 := 600) (s9 := 3800) (As := [_, _, _]) hO dL_law_260 o_L_alike s_L_alike l_L_226 ⟨Nat.le_of_ble_eq_true rfl, Nat.le_of_ble_eq_true rfl⟩ ⟨rfl, rfl⟩ ⟨by omega, by omega⟩ rfl rfl (Nat.le_of_ble_eq_true rfl) (m_alike hN hO hX (Nat.le_trans hT (by decide)) h (fun C1 h => ?_))
    dsimp only [Option.toList, List.cons_append, List.nil_append]
    refine x_if_eqN (tgt := 270) dL_law_263 (by decide) (by decide) ?_
    refine x_iconst (v := nI 1) dL_law_266 (by decide) ?_
    refine x_goto (tgt := 271) dL_law_267 (by decide) ?_
    refine x_istore_n dL_law_271 (Nat.le_of_ble_eq_true rfl) ?_
    refine x_ls [(0, .ref b), (1, .ref x), (2, .ref y), (3, .int (nI 1)), (4, .int (nI i)), (5, .int (nI X)), (6, .int (nI Y))] ⟨rfl, rfl, rfl, rfl, rfl, rfl, rfl, trivial⟩ ?_
    refine x_room (k := k0) (n := n0) (by omega) (by omega) ?_
    exact kk _ h
  · skip
    refine x_iload_n dL_law_244 rfl ?_
    refine x_if_eqN (tgt := 270) dL_law_245 (by decide) (by decide) ?_
    refine x_iload dL_law_248 rfl ?_
    refine x_bipush (v := nI 16) dL_law_250 (by decide) ?_
    refine x_irem dL_law_252 (by decide) ?_
    rw [pk_rem (by omega) (by decide) (by decide)]
    refine x_if_gtT (tgt := 266) dL_law_253 (by decide) ((nI_ltI (a := 0) (by decide) (by omega)).mpr (by omega)) ?_
    refine x_iconst (v := nI 1) dL_law_266 (by decide) ?_
    refine x_goto (tgt := 271) dL_law_267 (by decide) ?_
    refine x_istore_n dL_law_271 (Nat.le_of_ble_eq_true rfl) ?_
    refine x_ls [(0, .ref b), (1, .ref x), (2, .ref y), (3, .int (nI 1)), (4, .int (nI i)), (5, .int (nI X)), (6, .int (nI Y))] ⟨rfl, rfl, rfl, rfl, rfl, rfl, rfl, trivial⟩ ?_
    refine x_room (k := k0) (n := n0) (by omega) (by omega) ?_
    exact kk _ h

theorem la_D {nm : String} {G : GT} {C : AH} {Q : QT} {sa va : Nat → Nat} {x y b T n i X Y k0 n0 : Nat} {S : Nat → Nat} {ρ : Rw} {L : List Rw} {K : Nat → Option Rw} (hN : GN G) (hO : GO G) (hX : GX G sa va) (hT : T ≤ 39000) (hX9 : X < 2 ^ 31) (hY9 : Y < 2 ^ 31) (h : TW T C x y (S, n, ρ, L, K) (S, n, ρ, L, K)) (kk : ∀ (S9 : Nat → Nat) (n9 : Nat) (ρ9 : Rw) (L9 : List Rw) (K9 : Nat → Option Rw) (C' : AH), TW (T + 96) C' x y (S9, n9, ρ9, L9, K9) (S9, n9, ρ9, L9, K9) → Ex G (M_law nm) Q NX (k0) (n0) 162 [(0, .ref b), (1, .ref x), (2, .ref y), (3, .int (nI 1)), (4, .int (nI i)), (5, .int (nI X)), (6, .int (nI Y))] [] C') : Ex G (M_law nm) Q NX (34 + k0) (204 + n0) 136 [(0, .ref b), (1, .ref x), (2, .ref y), (3, .int (nI 1)), (4, .int (nI i)), (5, .int (nI X)), (6, .int (nI Y))] [] C := by
  obtain ⟨⟨v9, S9, n9, ρ9, L9, K9⟩, hr⟩ := m_act (n := n) (S := S) (ρ := ρ) (L := L) (K := K) hX9 hY9
  refine x_aload_n dL_law_136 rfl ?_
  refine x_iload dL_law_137 rfl ?_
  refine x_iload dL_law_139 rfl ?_
  refine x_cS (c9 := 17) (s9 := 102) (As := [_, _, _]) hO dL_law_141 o_L_act s_L_act l_L_243 ⟨Nat.le_of_ble_eq_true rfl, Nat.le_of_ble_eq_true rfl⟩ ⟨rfl, rfl⟩ ⟨by omega, by omega⟩ rfl rfl (Nat.le_of_ble_eq_true rfl) (hr hN hO hX (Nat.le_trans hT (by decide)) (RF_refl h.1) (fun C1 hf => ?_))
  dsimp only [Option.toList, List.cons_append, List.nil_append]
  have h := TW_1 h hf (by omega)
  refine x_aload_n dL_law_144 rfl ?_
  refine x_iload dL_law_145 rfl ?_
  refine x_iload dL_law_147 rfl ?_
  refine x_cS (c9 := 17) (s9 := 102) (As := [_, _, _]) hO dL_law_149 o_L_act s_L_act l_L_243 ⟨Nat.le_of_ble_eq_true rfl, Nat.le_of_ble_eq_true rfl⟩ ⟨rfl, rfl⟩ ⟨by omega, by omega⟩ rfl rfl (Nat.le_of_ble_eq_true rfl) (hr hN hO hX (by omega) (RF_refl h.2.1) (fun C1 hf => ?_))
  dsimp only [Option.toList, List.cons_append, List.nil_append]
  have h := TW_2 h hf (by omega)
  refine x_lc_neN (tgt := 160) dL_law_152 dL_law_153 (by decide) rfl ?_
  refine x_iconst (v := nI 1) dL_law_156 (by decide) ?_
  refine x_goto (tgt := 161) dL_law_157 (by decide) ?_
  refine x_istore_n dL_law_161 (Nat.le_of_ble_eq_true rfl) ?_
  refine x_ls [(0, .ref b), (1, .ref x), (2, .ref y), (3, .int (nI 1)), (4, .int (nI i)), (5, .int (nI X)), (6, .int (nI Y))] ⟨rfl, rfl, rfl, rfl, rfl, rfl, rfl, trivial⟩ ?_
  refine x_room (k := k0) (n := n0) (by omega) (by omega) ?_
  exact kk S9 n9 ρ9 L9 K9 _ h

theorem la_E {nm : String} {G : GT} {C : AH} {Q : QT} {sa va : Nat → Nat} {x y b T n i X Y k0 n0 : Nat} {S : Nat → Nat} {ρ : Rw} {L : List Rw} {K : Nat → Option Rw} (hN : GN G) (hO : GO G) (hX : GX G sa va) (hT : T ≤ 39000) (h6 : 6000 ≤ T) (hX9 : X < 2 ^ 31) (hY9 : Y < 2 ^ 31) (h : TW T C x y (S, n, ρ, L, K) (S, n, ρ, L, K)) (kk : ∀ (s9 : St) (C' : AH), TW T C' x y s9 s9 → Ex G (M_law nm) Q NX (k0) (n0) 272 [(0, .ref b), (1, .ref x), (2, .ref y), (3, .int (nI 1)), (4, .int (nI i)), (5, .int (nI X)), (6, .int (nI Y))] [] C') : Ex G (M_law nm) Q NX (402 + k0) (2412 + n0) 93 [(0, .ref b), (1, .ref x), (2, .ref y), (3, .int (nI 1)), (4, .int (nI i)), (5, .int (nI X)), (6, .int (nI Y))] [] C := by
  refine x_aload_n dL_law_93 rfl ?_
  refine x_iload dL_law_94 rfl ?_
  refine x_iload dL_law_96 rfl ?_
  refine x_cS (c9 := 200) (s9 := 1200) (As := [_, _, _]) hO dL_law_98 o_L_tells s_L_tells l_L_237 ⟨Nat.le_of_ble_eq_true rfl, Nat.le_of_ble_eq_true rfl⟩ ⟨rfl, rfl⟩ ⟨by omega, by omega⟩ rfl rfl (Nat.le_of_ble_eq_true rfl) (m_tells hN hO hX (Nat.le_trans hT (by decide)) hX9 hY9 (RF_refl h.1) (fun C1 hf => ?_))
  dsimp only [Option.toList, List.cons_append, List.nil_append]
  have h := TW_1 h hf (by omega)
  refine x_if_eqN (tgt := 131) dL_law_101 (by decide) (by decide) ?_
  refine x_aload_n dL_law_104 rfl ?_
  refine x_iload dL_law_105 rfl ?_
  refine x_iload dL_law_107 rfl ?_
  refine x_cS (c9 := 200) (s9 := 1200) (As := [_, _, _]) hO dL_law_109 o_L_tells s_L_tells l_L_237 ⟨Nat.le_of_ble_eq_true rfl, Nat.le_of_ble_eq_true rfl⟩ ⟨rfl, rfl⟩ ⟨by omega, by omega⟩ rfl rfl (Nat.le_of_ble_eq_true rfl) (m_tells hN hO hX (Nat.le_trans hT (by decide)) hX9 hY9 (RF_refl h.2.1) (fun C1 hf => ?_))
  dsimp only [Option.toList, List.cons_append, List.nil_append]
  have h := TW_2 h hf (by omega)
  refine x_if_eqN (tgt := 131) dL_law_112 (by decide) (by decide) ?_
  refine x_aload_n dL_law_115 rfl ?_
  refine x_cX (c9 := 1) (s9 := 6) (As := [_]) hO dL_law_116 o_L_load s_L_load l_L_241 ⟨Nat.le_of_ble_eq_true rfl, Nat.le_of_ble_eq_true rfl⟩ ⟨rfl, rfl⟩ ⟨by omega, by omega⟩ rfl rfl (Nat.le_of_ble_eq_true rfl) (l_load hN hO hX (Nat.le_trans hT (by decide)) (RF_refl h.1) h6 (fun C1 hf => ?_))
  dsimp only [Option.toList, List.cons_append, List.nil_append]
  have h := TW_1 h hf (by omega)
  refine x_aload_n dL_law_119 rfl ?_
  refine x_cX (c9 := 1) (s9 := 6) (As := [_]) hO dL_law_120 o_L_load s_L_load l_L_241 ⟨Nat.le_of_ble_eq_true rfl, Nat.le_of_ble_eq_true rfl⟩ ⟨rfl, rfl⟩ ⟨by omega, by omega⟩ rfl rfl (Nat.le_of_ble_eq_true rfl) (l_load hN hO hX (Nat.le_trans hT (by decide)) (RF_refl h.2.1) h6 (fun C1 hf => ?_))
  dsimp only [Option.toList, List.cons_append, List.nil_append]
  have h := TW_2 h hf (by omega)
  refine x_lc_neN (tgt := 131) dL_law_123 dL_law_124 (by decide) rfl ?_
  refine x_iconst (v := nI 1) dL_law_127 (by decide) ?_
  refine x_goto (tgt := 132) dL_law_128 (by decide) ?_
  refine x_istore_n dL_law_132 (Nat.le_of_ble_eq_true rfl) ?_
  refine x_goto (tgt := 272) dL_law_133 (by decide) ?_
  refine x_ls [(0, .ref b), (1, .ref x), (2, .ref y), (3, .int (nI 1)), (4, .int (nI i)), (5, .int (nI X)), (6, .int (nI Y))] ⟨rfl, rfl, rfl, rfl, rfl, rfl, rfl, trivial⟩ ?_
  refine x_room (k := k0) (n := n0) (by omega) (by omega) ?_
  exact kk _ _ h

theorem la_1 {nm : String} {G : GT} {Q : QT} {sa va : Nat → Nat} {x y b N : Nat} {xs : Nat → Int32} (hN : GN G) (hO : GO G) (hX : GX G sa va) (hb : eT G .int b N (fun j => .int (xs j))) (hL : N ≤ 260) (hq : ∀ C' : AH, Q (some (.int 1)) C') : ∀ (d i : Nat) (s : St) (C : AH), d + i = 48 → TW (6000 + 200 * i) C x y s s → Ex G (M_law nm) Q NX (6300 * d + 600) (40600 * d + 3800) 52 [(0, .ref b), (1, .ref x), (2, .ref y), (3, .int (nI 1)), (4, .int (nI i))] [] C := by
  intro d
  induction d with
  | zero =>
    intro i s C hi h
    obtain ⟨S, n, ρ, L, K⟩ := s
    refine x_iload dL_law_52 rfl ?_
    refine x_bipush (v := nI 48) dL_law_54 (by decide) ?_
    refine x_icmp_geT (tgt := 278) dL_law_56 (by decide) (nI_le (by omega) (by omega)) ?_
    refine x_iload_n dL_law_278 rfl ?_
    refine x_if_eqN (tgt := 296) dL_law_279 (by decide) (by decide) ?_
    refine x_aload_n dL_law_282 rfl ?_
    refine x_aload_n dL_law_283 rfl ?_
    refine x_ldc hO.1 dL_law_284 k_L_249 ?_
    refine x_cS (c9 := 600) (s9 := 3800) (As := [_, _, _]) hO dL_law_286 o_L_alike s_L_alike l_L_226 ⟨Nat.le_of_ble_eq_true rfl, Nat.le_of_ble_eq_true rfl⟩ ⟨rfl, rfl⟩ ⟨by omega, by omega⟩ rfl rfl (Nat.le_of_ble_eq_true rfl) (m_alike hN hO hX (by omega) h (fun C1 h => ?_))
    dsimp only [Option.toList, List.cons_append, List.nil_append]
    refine x_if_eqN (tgt := 296) dL_law_289 (by decide) (by decide) ?_
    refine x_iconst (v := nI 1) dL_law_292 (by decide) ?_
    refine x_goto (tgt := 297) dL_law_293 (by decide) ?_
    refine x_iret dL_law_297 rfl (by decide) ?_
    exact hq _
  | succ d ih =>
    intro i s C hi9 h
    have hi : i < 48 := by omega
    obtain ⟨S, n, ρ, L, K⟩ := s
    have nxt : ∀ (s9 : St) (C9 : AH) (k9 n9 X Y : Nat), 6300 * d + 600 ≤ k9 → 40600 * d + 3800 ≤ n9 → TW (6000 + 200 * i + 200) C9 x y s9 s9 → Ex G (M_law nm) Q NX (k9) (n9) 272 [(0, .ref b), (1, .ref x), (2, .ref y), (3, .int (nI 1)), (4, .int (nI i)), (5, .int (nI X)), (6, .int (nI Y))] [] C9 := by
      intro s9 C9 k9 n9 X Y q1 q2 h
      refine x_iinc (v := nI 1) dL_law_272 rfl (Nat.le_of_ble_eq_true rfl) (by decide) ?_
      refine x_goto (tgt := 52) dL_law_275 (by decide) ?_
      refine x_ls [(0, .ref b), (1, .ref x), (2, .ref y), (3, .int (nI 1)), (4, .int (nI (i + 1)))] ⟨rfl, rfl, rfl, rfl, (by rw [← nI_add]; rfl), trivial⟩ ?_
      refine x_room (k := 6300 * d + 600) (n := 40600 * d + 3800) (by omega) (by omega) ?_
      exact ih (i + 1) s9 C9 (by omega) (TW_mono h (by omega))
    refine x_iload dL_law_52 rfl ?_
    refine x_bipush (v := nI 48) dL_law_54 (by decide) ?_
    refine x_icmp_geN (tgt := 278) dL_law_56 (by decide) (nI_ge (by omega) (by decide)) ?_
    refine x_iload_n dL_law_59 rfl ?_
    refine x_if_eqN (tgt := 278) dL_law_60 (by decide) (by decide) ?_
    refine x_aload_n dL_law_63 rfl ?_
    refine x_iconst (v := nI 2) dL_law_64 (by decide) ?_
    refine x_iload dL_law_65 rfl ?_
    refine x_imul dL_law_67 ?_
    rw [pk_mul]
    refine x_cS (c9 := 0) (s9 := 0) (As := [_, _]) hO dL_law_68 o_L_draw s_L_draw l_L_222 ⟨Nat.le_of_ble_eq_true rfl, Nat.le_of_ble_eq_true rfl⟩ ⟨rfl, rfl⟩ ⟨by omega, by omega⟩ rfl rfl (Nat.le_of_ble_eq_true rfl) (m_draw (k := 2 * i) hO hb hL (by omega) (fun X hX9 => ?_))
    dsimp only [Option.toList, List.cons_append, List.nil_append]
    refine x_istore dL_law_71 (Nat.le_of_ble_eq_true rfl) ?_
    refine x_aload_n dL_law_73 rfl ?_
    refine x_iconst (v := nI 2) dL_law_74 (by decide) ?_
    refine x_iload dL_law_75 rfl ?_
    refine x_imul dL_law_77 ?_
    rw [pk_mul]
    refine x_iconst (v := nI 1) dL_law_78 (by decide) ?_
    refine x_iadd dL_law_79 ?_
    rw [nI_add]
    refine x_cS (c9 := 0) (s9 := 0) (As := [_, _]) hO dL_law_80 o_L_draw s_L_draw l_L_222 ⟨Nat.le_of_ble_eq_true rfl, Nat.le_of_ble_eq_true rfl⟩ ⟨rfl, rfl⟩ ⟨by omega, by omega⟩ rfl rfl (Nat.le_of_ble_eq_true rfl) (m_draw (k := 2 * i + 1) hO hb hL (by omega) (fun Y hY9 => ?_))
    dsimp only [Option.toList, List.cons_append, List.nil_append]
    refine x_istore dL_law_83 (Nat.le_of_ble_eq_true rfl) ?_
    refine x_ls [(0, .ref b), (1, .ref x), (2, .ref y), (3, .int (nI 1)), (4, .int (nI i)), (5, .int (nI X)), (6, .int (nI Y))] ⟨rfl, rfl, rfl, rfl, rfl, rfl, rfl, trivial⟩ ?_
    by_cases c24 : i % 24 = 0
    · skip
      refine x_iload dL_law_85 rfl ?_
      refine x_bipush (v := nI 24) dL_law_87 (by decide) ?_
      refine x_irem dL_law_89 (by decide) ?_
      rw [pk_rem (by omega) (by decide) (by decide)]
      refine x_if_neN (tgt := 136) dL_law_90 (by decide) (congrArg nI c24) ?_
      refine x_ls [(0, .ref b), (1, .ref x), (2, .ref y), (3, .int (nI 1)), (4, .int (nI i)), (5, .int (nI X)), (6, .int (nI Y))] ⟨rfl, rfl, rfl, rfl, rfl, rfl, rfl, trivial⟩ ?_
      refine x_room (k := 402 + (6300 * d + 600)) (n := 2412 + (40600 * d + 3800)) (by omega) (by omega) ?_
      exact la_E hN hO hX (by omega) (by omega) hX9 hY9 h (fun s9 C9 h => nxt s9 C9 _ _ X Y (Nat.le_refl _) (Nat.le_refl _) (TW_mono h (by omega)))
    · skip
      refine x_iload dL_law_85 rfl ?_
      refine x_bipush (v := nI 24) dL_law_87 (by decide) ?_
      refine x_irem dL_law_89 (by decide) ?_
      rw [pk_rem (by omega) (by decide) (by decide)]
      refine x_if_neT (tgt := 136) dL_law_90 (by decide) (nI_ne0 (by omega) (by omega)) ?_
      refine x_ls [(0, .ref b), (1, .ref x), (2, .ref y), (3, .int (nI 1)), (4, .int (nI i)), (5, .int (nI X)), (6, .int (nI Y))] ⟨rfl, rfl, rfl, rfl, rfl, rfl, rfl, trivial⟩ ?_
      refine x_room (k := 34 + (3000 + (2604 + (600 + (6300 * d + 600))))) (n := 204 + (20400 + (16024 + (3800 + (40600 * d + 3800))))) (by omega) (by omega) ?_
      refine la_D hN hO hX (by omega) hX9 hY9 h (fun S1 n1 ρ1 L1 K1 C1 h => ?_)
      refine la_A hN hO hX (by omega) hi h (fun C2 h => ?_)
      refine la_B hN hO hX (by omega) hi hY9 h (fun S2 n2 ρ2 L2 K2 C3 h => ?_)
      refine la_C hN hO hX (by omega) hi h (fun C4 h => ?_)
      exact nxt _ C4 _ _ X Y (Nat.le_refl _) (Nat.le_refl _) (TW_mono h (by omega))

theorem l_start {nm : String} {G : GT} {Q : QT} {sa va : Nat → Nat} {b N : Nat} {xs : Nat → Int32} {C : AH} (hO : GO G) (hX : GX G sa va) (hN : GN G) (hb : eT G .int b N (fun j => .int (xs j))) (hL : N ≤ 260) (hq : ∀ C' : AH, Q (some (.int 1)) C') : Ex G (M_law nm) Q NX 865661 6504714 0 (lv_args 0 [.ref b]) [] C := by
  refine x_new 6 hO dL_law_0 ⟨Nat.le_of_ble_eq_true rfl, Nat.le_of_ble_eq_true rfl⟩ rfl q_L_10 in_X4 ini_X4 (by decide) (by decide) (by decide) ?_
  refine x_dup dL_law_3 rfl ?_
  refine x_callI (As := []) hO dL_law_4 o_X4_init rfl rfl i_X4_init l_L_221 ⟨Nat.le_of_ble_eq_true rfl, Nat.le_of_ble_eq_true rfl⟩ ⟨Nat.le_of_ble_eq_true rfl, Nat.le_of_ble_eq_true rfl⟩ rfl rfl (Nat.le_of_ble_eq_true rfl) (s_X4_init (x := gz C) hO hX rfl (if_pos rfl) (fun C1 e1 hK1 j1 j2 j3 j4 j5 j6 j7 j8 j9 hA => ?_))
  dsimp only [Option.toList, List.cons_append, List.nil_append]
  have hR0 := RX_new e1 hK1 j1 j2 j3 j4 j5 j6 j7 j8 j9
  clear j1 j2 j3 j4 j5 j6 j7 j8 j9
  obtain ⟨x, hx⟩ : ∃ x, gz C = x := ⟨_, rfl⟩
  rw [hx] at e1 hR0 ⊢
  refine x_astore_n dL_law_7 (Nat.le_of_ble_eq_true rfl) ?_
  refine x_new 6 hO dL_law_8 ⟨Nat.le_of_ble_eq_true rfl, Nat.le_of_ble_eq_true rfl⟩ rfl q_L_10 in_X4 ini_X4 (by decide) (by decide) (by decide) ?_
  rw [e1]
  refine x_dup dL_law_11 rfl ?_
  refine x_callI (As := []) hO dL_law_12 o_X4_init rfl rfl i_X4_init l_L_221 ⟨Nat.le_of_ble_eq_true rfl, Nat.le_of_ble_eq_true rfl⟩ ⟨Nat.le_of_ble_eq_true rfl, Nat.le_of_ble_eq_true rfl⟩ rfl rfl (Nat.le_of_ble_eq_true rfl) (s_X4_init (x := x + 255) hO hX (by rw [gz_wO, e1]) (by rw [gK_wO, e1]; exact if_pos rfl) (fun C2 e2 hK2 i1 i2 i3 i4 i5 i6 i7 i8 i9 hA2 => ?_))
  dsimp only [Option.toList, List.cons_append, List.nil_append]
  refine x_astore_n dL_law_15 (Nat.le_of_ble_eq_true rfl) ?_
  have hRy := RX_new e2 hK2 i1 i2 i3 i4 i5 i6 i7 i8 i9
  clear i1 i2 i3 i4 i5 i6 i7 i8 i9
  have hRx : RX 0 C2 x st0 := RX_A hR0 (fun q q1 q2 => by
    obtain ⟨u1, u2, u3, u4, u5⟩ := Ag_wO (C := C1) (κ := 6) (n := 0) e1 q (by omega)
    obtain ⟨v1, v2, v3, v4, v5⟩ := hA2 q (by omega)
    exact ⟨v1.trans u1, v2.trans u2, fun j => (v3 j).trans (u3 j), fun j => (v4 j).trans (u4 j), fun j => (v5 j).trans (u5 j)⟩) (by omega)
  have h : TW 6000 C2 x (x + 255) (st0.1, st0.2.1, st0.2.2.1, st0.2.2.2.1, st0.2.2.2.2) (st0.1, st0.2.1, st0.2.2.1, st0.2.2.2.1, st0.2.2.2.2) := ⟨RX_mono hRx (by omega), RX_mono hRy (by omega), Nat.le_refl _⟩
  refine x_room (k := 310000) (n := 2000000) (Nat.le_of_ble_eq_true rfl) (Nat.le_of_ble_eq_true rfl) ?_
  refine x_aload_n dL_law_16 rfl ?_
  refine x_aload_n dL_law_17 rfl ?_
  refine x_aload_n dL_law_18 rfl ?_
  refine x_iconst (v := nI 0) dL_law_19 (by decide) ?_
  refine x_cS (c9 := 0) (s9 := 0) (As := [_, _]) hO dL_law_20 o_L_draw s_L_draw l_L_222 ⟨Nat.le_of_ble_eq_true rfl, Nat.le_of_ble_eq_true rfl⟩ ⟨rfl, rfl⟩ ⟨by omega, by omega⟩ rfl rfl (Nat.le_of_ble_eq_true rfl) (m_draw (k := 0) hO hb hL (by decide) (fun X hX9 => ?_))
  dsimp only [Option.toList, List.cons_append, List.nil_append]
  refine x_cS (c9 := 600) (s9 := 3800) (As := [_, _, _]) hO dL_law_23 o_L_alike s_L_alike l_L_226 ⟨Nat.le_of_ble_eq_true rfl, Nat.le_of_ble_eq_true rfl⟩ ⟨rfl, rfl⟩ ⟨by omega, by omega⟩ rfl rfl (Nat.le_of_ble_eq_true rfl) (m_alike hN hO hX (by decide) h (fun C3 h => ?_))
  dsimp only [Option.toList, List.cons_append, List.nil_append]
  refine x_if_eqN (tgt := 47) dL_law_26 (by decide) (by decide) ?_
  refine x_aload_n dL_law_29 rfl ?_
  refine x_cS (c9 := 1000) (s9 := 6400) (As := [_]) hO dL_law_30 o_L_errors s_L_errors l_L_230 ⟨Nat.le_of_ble_eq_true rfl, Nat.le_of_ble_eq_true rfl⟩ ⟨rfl, rfl⟩ ⟨by omega, by omega⟩ rfl rfl (Nat.le_of_ble_eq_true rfl) (m_errors hN hO hX (by decide) (RF_refl h.1) (fun C4 hf => ?_))
  dsimp only [Option.toList, List.cons_append, List.nil_append]
  have h := TW_1 h hf (by omega)
  refine x_if_eqN (tgt := 47) dL_law_33 (by decide) (by decide) ?_
  refine x_aload_n dL_law_36 rfl ?_
  refine x_cS (c9 := 2000) (s9 := 14000) (As := [_]) hO dL_law_37 o_L_kept s_L_kept l_L_234 ⟨Nat.le_of_ble_eq_true rfl, Nat.le_of_ble_eq_true rfl⟩ ⟨rfl, rfl⟩ ⟨by omega, by omega⟩ rfl rfl (Nat.le_of_ble_eq_true rfl) (m_kept hN hO hX (by decide) (RF_refl h.1) (fun C5 hf => ?_))
  dsimp only [Option.toList, List.cons_append, List.nil_append]
  have h := TW_1 h hf (by omega)
  refine x_if_eqN (tgt := 47) dL_law_40 (by decide) (by decide) ?_
  refine x_iconst (v := nI 1) dL_law_43 (by decide) ?_
  refine x_goto (tgt := 48) dL_law_44 (by decide) ?_
  refine x_istore_n dL_law_48 (Nat.le_of_ble_eq_true rfl) ?_
  refine x_iconst (v := nI 0) dL_law_49 (by decide) ?_
  refine x_istore dL_law_50 (Nat.le_of_ble_eq_true rfl) ?_
  refine x_ls [(0, .ref b), (1, .ref x), (2, .ref (x + 255)), (3, .int (nI 1)), (4, .int (nI 0))] ⟨rfl, rfl, rfl, rfl, rfl, trivial⟩ ?_
  refine x_room (k := 6300 * 48 + 600) (n := 40600 * 48 + 3800) (by omega) (by omega) ?_
  exact la_1 hN hO hX hb hL hq 48 0 _ _ rfl h

