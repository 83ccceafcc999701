/-! the law: two objects side by side; one act -/
/-- both objects, one behind the other -/
def TW (T : Nat) (C : AH) (x y : Nat) (s u : St) : Prop := RX T C x s ∧ RX T C y u ∧ x + 255 ≤ y
theorem RX_gz {T x : Nat} {C : AH} {s : St} (h : RX T C x s) : x + 255 ≤ gz C := h.2.elim fun _ q => q.1.2.2.2.2.2.2.2.2.2.2
theorem TW_1 {T U x y : Nat} {C C' : AH} {s s' u : St} (h : TW T C x y s u) (hf : RF U C C' x s') (hU : T ≤ U) : TW U C' x y s' u := by
  have hz := RX_gz h.2.1
  have hd := h.2.2
  exact ⟨hf.1, RX_mono (RX_A h.2.1 (fun q q1 q2 => hf.2.2 q (by omega) (Or.inr (by omega))) hf.2.1) hU, hd⟩
theorem TW_2 {T U x y : Nat} {C C' : AH} {s u u' : St} (h : TW T C x y s u) (hf : RF U C C' y u') (hU : T ≤ U) : TW U C' x y s u' := by
  have hz := RX_gz h.1
  have hd := h.2.2
  exact ⟨RX_mono (RX_A h.1 (fun q q1 q2 => hf.2.2 q (by omega) (Or.inl (by omega))) hf.2.1) hU, hf.1, hd⟩
theorem TW_mono {T U x y : Nat} {C : AH} {s u : St} (h : TW T C x y s u) (hU : T ≤ U) : TW U C x y s u := ⟨RX_mono h.1 hU, RX_mono h.2.1 hU, h.2.2⟩
theorem m_alike {G : GT} {C : AH} {Q : QT} {sa va : Nat → Nat} {x y T n : Nat} {S : Nat → Nat} {ρ : Rw} {L : List Rw} {K : Nat → Option Rw} {v : Int32} (hN : GN G) (hO : GO G) (hX : GX G sa va) (hT : T ≤ 40000) (h : TW T C x y (S, n, ρ, L, K) (S, n, ρ, L, K)) (hq : ∀ C' : AH, TW T C' x y (S, n, ρ, L, K) (S, n, ρ, L, K) → Q (some (.int 1)) C') : Mt G M_L_alike [.ref x, .ref y, .int v] C Q NX := by
  refine Mt_of (by decide) (Nat.le_of_ble_eq_true rfl) ?_
  refine x_room (k := 600) (n := 3800) (by decide) (by decide) ?_
  refine x_aload_n dL_alike_0 rfl ?_
  refine x_cS (c9 := 220) (s9 := 1320) (As := [_]) hO dL_alike_1 o_L_now s_L_now l_L_115 ⟨by decide, by decide⟩ ⟨rfl, rfl⟩ ⟨by omega, by omega⟩ rfl rfl (Nat.le_of_ble_eq_true rfl) (m_now hN hO hX hT (RF_refl h.1) (fun C1 hf => ?_))
  dsimp only [Option.toList, List.cons_append, List.nil_append]
  have h := TW_1 h hf (Nat.le_refl _)
  refine x_aload_n dL_alike_4 rfl ?_
  refine x_cS (c9 := 220) (s9 := 1320) (As := [_]) hO dL_alike_5 o_L_now s_L_now l_L_115 ⟨by decide, by decide⟩ ⟨rfl, rfl⟩ ⟨by omega, by omega⟩ rfl rfl (Nat.le_of_ble_eq_true rfl) (m_now hN hO hX hT (RF_refl h.2.1) (fun C1 hf => ?_))
  dsimp only [Option.toList, List.cons_append, List.nil_append]
  have h := TW_2 h hf (Nat.le_refl _)
  refine x_lc_neN (tgt := 221) dL_alike_8 dL_alike_9 (by decide) rfl ?_
  refine x_aload_n dL_alike_12 rfl ?_
  refine x_callV (As := []) 6 hO dL_alike_13 o_X4_errorPosition v_X4_errorPosition l_L_205 ⟨by decide, by decide⟩ (RX_K h.1) ⟨by decide, by decide⟩ rfl ⟨Nat.zero_le _, Nat.zero_le _⟩ rfl rfl (Nat.le_of_ble_eq_true rfl) (t_errorPosition hO hX h.1 (fun _ C1 hR9 hF9 => ?_))
  dsimp only [Option.toList, List.cons_append, List.nil_append]
  have h := TW_1 h ⟨hR9, hF9⟩ (Nat.le_refl _)
  refine x_room (k := 160) (n := 1160) (Nat.le_refl _) (Nat.le_refl _) ?_
  refine x_aload_n dL_alike_16 rfl ?_
  refine x_callV (As := []) 6 hO dL_alike_17 o_X4_errorPosition v_X4_errorPosition l_L_205 ⟨by decide, by decide⟩ (RX_K h.2.1) ⟨by decide, by decide⟩ rfl ⟨Nat.zero_le _, Nat.zero_le _⟩ rfl rfl (Nat.le_of_ble_eq_true rfl) (t_errorPosition hO hX h.2.1 (fun _ C1 hR9 hF9 => ?_))
  dsimp only [Option.toList, List.cons_append, List.nil_append]
  have h := TW_2 h ⟨hR9, hF9⟩ (Nat.le_refl _)
  refine x_room (k := 160) (n := 1160) (Nat.le_refl _) (Nat.le_refl _) ?_
  refine x_icmp_neN (tgt := 221) dL_alike_20 (by decide) rfl ?_
  refine x_aload_n dL_alike_23 rfl ?_
  refine x_iconst (v := nI 1) dL_alike_24 (by decide) ?_
  refine x_iload_n dL_alike_25 rfl ?_
  refine x_bipush (v := nI 50) dL_alike_26 (by decide) ?_
  refine x_irem dL_alike_28 (by decide) ?_
  refine x_iadd dL_alike_29 ?_
  refine x_iload_n dL_alike_30 rfl ?_
  refine x_iconst (v := nI 4) dL_alike_31 (by decide) ?_
  refine x_irem dL_alike_32 (by decide) ?_
  refine x_cX (c9 := 2) (s9 := 12) (As := [_, _, _]) hO dL_alike_33 o_L_coming s_L_coming l_L_137 ⟨by decide, by decide⟩ ⟨rfl, rfl⟩ ⟨by omega, by omega⟩ rfl rfl (Nat.le_of_ble_eq_true rfl) (q_coming hN hO hX hT (RF_refl h.1) (fun C1 hf => ?_))
  dsimp only [Option.toList, List.cons_append, List.nil_append]
  have h := TW_1 h hf (Nat.le_refl _)
  refine x_aload_n dL_alike_36 rfl ?_
  refine x_iconst (v := nI 1) dL_alike_37 (by decide) ?_
  refine x_iload_n dL_alike_38 rfl ?_
  refine x_bipush (v := nI 50) dL_alike_39 (by decide) ?_
  refine x_irem dL_alike_41 (by decide) ?_
  refine x_iadd dL_alike_42 ?_
  refine x_iload_n dL_alike_43 rfl ?_
  refine x_iconst (v := nI 4) dL_alike_44 (by decide) ?_
  refine x_irem dL_alike_45 (by decide) ?_
  refine x_cX (c9 := 2) (s9 := 12) (As := [_, _, _]) hO dL_alike_46 o_L_coming s_L_coming l_L_137 ⟨by decide, by decide⟩ ⟨rfl, rfl⟩ ⟨by omega, by omega⟩ rfl rfl (Nat.le_of_ble_eq_true rfl) (q_coming hN hO hX hT (RF_refl h.2.1) (fun C1 hf => ?_))
  dsimp only [Option.toList, List.cons_append, List.nil_append]
  have h := TW_2 h hf (Nat.le_refl _)
  refine x_lc_neN (tgt := 221) dL_alike_49 dL_alike_50 (by decide) rfl ?_
  refine x_aload_n dL_alike_53 rfl ?_
  refine x_iload_n dL_alike_54 rfl ?_
  refine x_bipush (v := nI 8) dL_alike_55 (by decide) ?_
  refine x_irem dL_alike_57 (by decide) ?_
  refine x_cX (c9 := 1) (s9 := 6) (As := [_, _]) hO dL_alike_58 o_L_firstMissed s_L_firstMissed l_L_139 ⟨by decide, by decide⟩ ⟨rfl, rfl⟩ ⟨by omega, by omega⟩ rfl rfl (Nat.le_of_ble_eq_true rfl) (q_firstMissed hN hO hX hT (RF_refl h.1) (fun C1 hf => ?_))
  dsimp only [Option.toList, List.cons_append, List.nil_append]
  have h := TW_1 h hf (Nat.le_refl _)
  refine x_aload_n dL_alike_61 rfl ?_
  refine x_iload_n dL_alike_62 rfl ?_
  refine x_bipush (v := nI 8) dL_alike_63 (by decide) ?_
  refine x_irem dL_alike_65 (by decide) ?_
  refine x_cX (c9 := 1) (s9 := 6) (As := [_, _]) hO dL_alike_66 o_L_firstMissed s_L_firstMissed l_L_139 ⟨by decide, by decide⟩ ⟨rfl, rfl⟩ ⟨by omega, by omega⟩ rfl rfl (Nat.le_of_ble_eq_true rfl) (q_firstMissed hN hO hX hT (RF_refl h.2.1) (fun C1 hf => ?_))
  dsimp only [Option.toList, List.cons_append, List.nil_append]
  have h := TW_2 h hf (Nat.le_refl _)
  refine x_lc_neN (tgt := 221) dL_alike_69 dL_alike_70 (by decide) rfl ?_
  refine x_aload_n dL_alike_73 rfl ?_
  refine x_iconst (v := nI 1) dL_alike_74 (by decide) ?_
  refine x_iload_n dL_alike_75 rfl ?_
  refine x_bipush (v := nI 9) dL_alike_76 (by decide) ?_
  refine x_irem dL_alike_78 (by decide) ?_
  refine x_iadd dL_alike_79 ?_
  refine x_cX (c9 := 1) (s9 := 6) (As := [_, _]) hO dL_alike_80 o_L_leastLimit s_L_leastLimit l_L_141 ⟨by decide, by decide⟩ ⟨rfl, rfl⟩ ⟨by omega, by omega⟩ rfl rfl (Nat.le_of_ble_eq_true rfl) (q_leastLimit hN hO hX hT (RF_refl h.1) (fun C1 hf => ?_))
  dsimp only [Option.toList, List.cons_append, List.nil_append]
  have h := TW_1 h hf (Nat.le_refl _)
  refine x_aload_n dL_alike_83 rfl ?_
  refine x_iconst (v := nI 1) dL_alike_84 (by decide) ?_
  refine x_iload_n dL_alike_85 rfl ?_
  refine x_bipush (v := nI 9) dL_alike_86 (by decide) ?_
  refine x_irem dL_alike_88 (by decide) ?_
  refine x_iadd dL_alike_89 ?_
  refine x_cX (c9 := 1) (s9 := 6) (As := [_, _]) hO dL_alike_90 o_L_leastLimit s_L_leastLimit l_L_141 ⟨by decide, by decide⟩ ⟨rfl, rfl⟩ ⟨by omega, by omega⟩ rfl rfl (Nat.le_of_ble_eq_true rfl) (q_leastLimit hN hO hX hT (RF_refl h.2.1) (fun C1 hf => ?_))
  dsimp only [Option.toList, List.cons_append, List.nil_append]
  have h := TW_2 h hf (Nat.le_refl _)
  refine x_lc_neN (tgt := 221) dL_alike_93 dL_alike_94 (by decide) rfl ?_
  refine x_aload_n dL_alike_97 rfl ?_
  refine x_iconst (v := nI 1) dL_alike_98 (by decide) ?_
  refine x_iload_n dL_alike_99 rfl ?_
  refine x_bipush (v := nI 9) dL_alike_100 (by decide) ?_
  refine x_irem dL_alike_102 (by decide) ?_
  refine x_iadd dL_alike_103 ?_
  refine x_cX (c9 := 1) (s9 := 6) (As := [_, _]) hO dL_alike_104 o_L_bestNight s_L_bestNight l_L_143 ⟨by decide, by decide⟩ ⟨rfl, rfl⟩ ⟨by omega, by omega⟩ rfl rfl (Nat.le_of_ble_eq_true rfl) (q_bestNight hN hO hX hT (RF_refl h.1) (fun C1 hf => ?_))
  dsimp only [Option.toList, List.cons_append, List.nil_append]
  have h := TW_1 h hf (Nat.le_refl _)
  refine x_aload_n dL_alike_107 rfl ?_
  refine x_iconst (v := nI 1) dL_alike_108 (by decide) ?_
  refine x_iload_n dL_alike_109 rfl ?_
  refine x_bipush (v := nI 9) dL_alike_110 (by decide) ?_
  refine x_irem dL_alike_112 (by decide) ?_
  refine x_iadd dL_alike_113 ?_
  refine x_cX (c9 := 1) (s9 := 6) (As := [_, _]) hO dL_alike_114 o_L_bestNight s_L_bestNight l_L_143 ⟨by decide, by decide⟩ ⟨rfl, rfl⟩ ⟨by omega, by omega⟩ rfl rfl (Nat.le_of_ble_eq_true rfl) (q_bestNight hN hO hX hT (RF_refl h.2.1) (fun C1 hf => ?_))
  dsimp only [Option.toList, List.cons_append, List.nil_append]
  have h := TW_2 h hf (Nat.le_refl _)
  refine x_lc_neN (tgt := 221) dL_alike_117 dL_alike_118 (by decide) rfl ?_
  refine x_aload_n dL_alike_121 rfl ?_
  refine x_iconst (v := nI 1) dL_alike_122 (by decide) ?_
  refine x_iload_n dL_alike_123 rfl ?_
  refine x_bipush (v := nI 50) dL_alike_124 (by decide) ?_
  refine x_irem dL_alike_126 (by decide) ?_
  refine x_iadd dL_alike_127 ?_
  refine x_bipush (v := nI 15) dL_alike_128 (by decide) ?_
  refine x_cX (c9 := 3) (s9 := 18) (As := [_, _, _]) hO dL_alike_130 o_L_ifPlugged s_L_ifPlugged l_L_126 ⟨by decide, by decide⟩ ⟨rfl, rfl⟩ ⟨by omega, by omega⟩ rfl rfl (Nat.le_of_ble_eq_true rfl) (q_ifPlugged hN hO hX hT (RF_refl h.1) (fun C1 hf => ?_))
  dsimp only [Option.toList, List.cons_append, List.nil_append]
  have h := TW_1 h hf (Nat.le_refl _)
  refine x_aload_n dL_alike_133 rfl ?_
  refine x_iconst (v := nI 1) dL_alike_134 (by decide) ?_
  refine x_iload_n dL_alike_135 rfl ?_
  refine x_bipush (v := nI 50) dL_alike_136 (by decide) ?_
  refine x_irem dL_alike_138 (by decide) ?_
  refine x_iadd dL_alike_139 ?_
  refine x_bipush (v := nI 15) dL_alike_140 (by decide) ?_
  refine x_cX (c9 := 3) (s9 := 18) (As := [_, _, _]) hO dL_alike_142 o_L_ifPlugged s_L_ifPlugged l_L_126 ⟨by decide, by decide⟩ ⟨rfl, rfl⟩ ⟨by omega, by omega⟩ rfl rfl (Nat.le_of_ble_eq_true rfl) (q_ifPlugged hN hO hX hT (RF_refl h.2.1) (fun C1 hf => ?_))
  dsimp only [Option.toList, List.cons_append, List.nil_append]
  have h := TW_2 h hf (Nat.le_refl _)
  refine x_lc_neN (tgt := 221) dL_alike_145 dL_alike_146 (by decide) rfl ?_
  refine x_aload_n dL_alike_149 rfl ?_
  refine x_iload_n dL_alike_150 rfl ?_
  refine x_bipush (v := nI 8) dL_alike_151 (by decide) ?_
  refine x_irem dL_alike_153 (by decide) ?_
  refine x_iload_n dL_alike_154 rfl ?_
  refine x_bipush (v := nI 15) dL_alike_155 (by decide) ?_
  refine x_irem dL_alike_157 (by decide) ?_
  refine x_cX (c9 := 4) (s9 := 32) (As := [_, _, _]) hO dL_alike_158 o_L_sign s_L_sign l_L_119 ⟨by decide, by decide⟩ ⟨rfl, rfl⟩ ⟨by omega, by omega⟩ rfl rfl (Nat.le_of_ble_eq_true rfl) (q_sign hN hO hX hT (RF_refl h.1) (fun C1 hf => ?_))
  dsimp only [Option.toList, List.cons_append, List.nil_append]
  have h := TW_1 h hf (Nat.le_refl _)
  refine x_aload_n dL_alike_161 rfl ?_
  refine x_iload_n dL_alike_162 rfl ?_
  refine x_bipush (v := nI 8) dL_alike_163 (by decide) ?_
  refine x_irem dL_alike_165 (by decide) ?_
  refine x_iload_n dL_alike_166 rfl ?_
  refine x_bipush (v := nI 15) dL_alike_167 (by decide) ?_
  refine x_irem dL_alike_169 (by decide) ?_
  refine x_cX (c9 := 4) (s9 := 32) (As := [_, _, _]) hO dL_alike_170 o_L_sign s_L_sign l_L_119 ⟨by decide, by decide⟩ ⟨rfl, rfl⟩ ⟨by omega, by omega⟩ rfl rfl (Nat.le_of_ble_eq_true rfl) (q_sign hN hO hX hT (RF_refl h.2.1) (fun C1 hf => ?_))
  dsimp only [Option.toList, List.cons_append, List.nil_append]
  have h := TW_2 h hf (Nat.le_refl _)
  refine x_lc_neN (tgt := 221) dL_alike_173 dL_alike_174 (by decide) rfl ?_
  refine x_aload_n dL_alike_177 rfl ?_
  refine x_iload_n dL_alike_178 rfl ?_
  refine x_i2l dL_alike_179 ?_
  refine x_bipush (v := nI 9) dL_alike_180 (by decide) ?_
  refine x_cX (c9 := 1) (s9 := 6) (As := [_, _, _]) hO dL_alike_182 o_L_simulate s_L_simulate l_L_151 ⟨by decide, by decide⟩ ⟨rfl, rfl⟩ ⟨by omega, by omega⟩ rfl rfl (Nat.le_of_ble_eq_true rfl) (q_simulate hN hO hX hT (RF_refl h.1) (fun C1 hf => ?_))
  dsimp only [Option.toList, List.cons_append, List.nil_append]
  have h := TW_1 h hf (Nat.le_refl _)
  refine x_aload_n dL_alike_185 rfl ?_
  refine x_iload_n dL_alike_186 rfl ?_
  refine x_i2l dL_alike_187 ?_
  refine x_bipush (v := nI 9) dL_alike_188 (by decide) ?_
  refine x_cX (c9 := 1) (s9 := 6) (As := [_, _, _]) hO dL_alike_190 o_L_simulate s_L_simulate l_L_151 ⟨by decide, by decide⟩ ⟨rfl, rfl⟩ ⟨by omega, by omega⟩ rfl rfl (Nat.le_of_ble_eq_true rfl) (q_simulate hN hO hX hT (RF_refl h.2.1) (fun C1 hf => ?_))
  dsimp only [Option.toList, List.cons_append, List.nil_append]
  have h := TW_2 h hf (Nat.le_refl _)
  refine x_lc_neN (tgt := 221) dL_alike_193 dL_alike_194 (by decide) rfl ?_
  refine x_aload_n dL_alike_197 rfl ?_
  refine x_iconst (v := nI 3) dL_alike_198 (by decide) ?_
  refine x_ldc2 hO.1 dL_alike_199 k_L_208 ?_
  refine x_cX (c9 := 2) (s9 := 12) (As := [_, _, _]) hO dL_alike_202 o_L_script s_L_script l_L_145 ⟨by decide, by decide⟩ ⟨rfl, rfl⟩ ⟨by omega, by omega⟩ rfl rfl (Nat.le_of_ble_eq_true rfl) (q_script hN hO hX hT (RF_refl h.1) (fun C1 hf => ?_))
  dsimp only [Option.toList, List.cons_append, List.nil_append]
  have h := TW_1 h hf (Nat.le_refl _)
  refine x_aload_n dL_alike_205 rfl ?_
  refine x_iconst (v := nI 3) dL_alike_206 (by decide) ?_
  refine x_ldc2 hO.1 dL_alike_207 k_L_208 ?_
  refine x_cX (c9 := 2) (s9 := 12) (As := [_, _, _]) hO dL_alike_210 o_L_script s_L_script l_L_145 ⟨by decide, by decide⟩ ⟨rfl, rfl⟩ ⟨by omega, by omega⟩ rfl rfl (Nat.le_of_ble_eq_true rfl) (q_script hN hO hX hT (RF_refl h.2.1) (fun C1 hf => ?_))
  dsimp only [Option.toList, List.cons_append, List.nil_append]
  have h := TW_2 h hf (Nat.le_refl _)
  refine x_lc_neN (tgt := 221) dL_alike_213 dL_alike_214 (by decide) rfl ?_
  refine x_iconst (v := nI 1) dL_alike_217 (by decide) ?_
  refine x_goto (tgt := 222) dL_alike_218 (by decide) ?_
  refine x_iret dL_alike_222 rfl (by first | rfl | assumption) ?_
  exact hq _ h

theorem act_2 {n X z : Nat} {S : Nat → Nat} {ρ : Rw} {L : List Rw} {K : Nat → Option Rw} (b : Int32) (hX9 : X < 2 ^ 31) (hz : z < 2 ^ 30) : ∃ r : Int64 × St, ∀ {G : GT} {C : AH} {Q : QT} {C0 : AH} {sa va : Nat → Nat} {x T : Nat}, GN G → GO G → GX G sa va → T ≤ 40000 → RF T C0 C x (S, n, ρ, L, K) → (∀ C' : AH, RF (T + 48) C0 C' x r.2 → Q (some (.long r.1)) C') → Ex G M_L_act Q NX 16 96 37 [(0, .ref x), (1, .int (nI X)), (3, .int (nI z)), (5, .int b)] [] C := by
  have hc : X % 24 < 24 := Nat.mod_lt _ (by decide)
  obtain ⟨c, hcx⟩ : ∃ c, X % 24 = c := ⟨_, rfl⟩
  rw [hcx] at hc
  rcases (show c = 0 ∨ c = 1 ∨ c = 2 ∨ c = 3 ∨ c = 4 ∨ c = 5 ∨ c = 6 ∨ c = 7 ∨ c = 8 ∨ c = 9 ∨ c = 10 ∨ c = 11 ∨ c = 12 ∨ c = 13 ∨ c = 14 ∨ c = 15 ∨ c = 16 ∨ c = 17 ∨ c = 18 ∨ c = 19 ∨ c = 20 ∨ c = 21 ∨ c = 22 ∨ c = 23 by omega) with rfl | rfl | rfl | rfl | rfl | rfl | rfl | rfl | rfl | rfl | rfl | rfl | rfl | rfl | rfl | rfl | rfl | rfl | rfl | rfl | rfl | rfl | rfl | rfl
  · skip
    refine ⟨(lw jA jS 0 (aAddBus (S, n, ρ, L, K) (nI (10 + z % 100)) (((nI z) / (nI 100)) - ((nI z) / (nI 100)) / ((nI (10 + z % 100)) + (nI 1)) * ((nI (10 + z % 100)) + (nI 1))) ((nI 1) + (((nI z) / (nI 7)) - ((nI z) / (nI 7)) / (nI 90) * (nI 90))) (((nI z) / (nI 11)) - ((nI z) / (nI 11)) / (nI 24) * (nI 24)) (((nI z) / (nI 264)) - ((nI z) / (nI 264)) / (nI 24) * (nI 24))), (aAddBus (S, n, ρ, L, K) (nI (10 + z % 100)) (((nI z) / (nI 100)) - ((nI z) / (nI 100)) / ((nI (10 + z % 100)) + (nI 1)) * ((nI (10 + z % 100)) + (nI 1))) ((nI 1) + (((nI z) / (nI 7)) - ((nI z) / (nI 7)) / (nI 90) * (nI 90))) (((nI z) / (nI 11)) - ((nI z) / (nI 11)) / (nI 24) * (nI 24)) (((nI z) / (nI 264)) - ((nI z) / (nI 264)) / (nI 24) * (nI 24))).2.2), ?_⟩
    intro G C Q C0 sa va x T hN hO hX hT h hq
    refine x_iload_n dL_act_37 rfl ?_
    refine x_bipush (v := nI 24) dL_act_38 (by decide) ?_
    refine x_irem dL_act_40 (by decide) ?_
    rw [pk_rem hX9 (by decide) (by decide), hcx]
    refine x_tableIn (off := 63) (tgt := 104) dL_act_41 (by decide +kernel) (by decide +kernel) (by decide +kernel) (by decide) ?_
    refine x_bipush (v := nI 10) dL_act_104 (by decide) ?_
    refine x_iload_n dL_act_106 rfl ?_
    refine x_bipush (v := nI 100) dL_act_107 (by decide) ?_
    refine x_irem dL_act_109 (by decide) ?_
    rw [pk_rem (by omega) (by decide) (by decide)]
    refine x_iadd dL_act_110 ?_
    rw [nI_add]
    refine x_istore dL_act_111 (by decide) ?_
    refine x_aload_n dL_act_113 rfl ?_
    refine x_iload dL_act_114 rfl ?_
    refine x_iload_n dL_act_116 rfl ?_
    refine x_bipush (v := nI 100) dL_act_117 (by decide) ?_
    refine x_idiv dL_act_119 (by decide) ?_
    refine x_iload dL_act_120 rfl ?_
    refine x_iconst (v := nI 1) dL_act_122 (by decide) ?_
    refine x_iadd dL_act_123 ?_
    refine x_irem dL_act_124 (by rw [nI_add]; exact nI_ne0 (by omega) (by omega)) ?_
    refine x_iconst (v := nI 1) dL_act_125 (by decide) ?_
    refine x_iload_n dL_act_126 rfl ?_
    refine x_bipush (v := nI 7) dL_act_127 (by decide) ?_
    refine x_idiv dL_act_129 (by decide) ?_
    refine x_bipush (v := nI 90) dL_act_130 (by decide) ?_
    refine x_irem dL_act_132 (by decide) ?_
    refine x_iadd dL_act_133 ?_
    refine x_iload_n dL_act_134 rfl ?_
    refine x_bipush (v := nI 11) dL_act_135 (by decide) ?_
    refine x_idiv dL_act_137 (by decide) ?_
    refine x_bipush (v := nI 24) dL_act_138 (by decide) ?_
    refine x_irem dL_act_140 (by decide) ?_
    refine x_iload_n dL_act_141 rfl ?_
    refine x_sipush (v := nI 264) dL_act_142 (by decide) ?_
    refine x_idiv dL_act_145 (by decide) ?_
    refine x_bipush (v := nI 24) dL_act_146 (by decide) ?_
    refine x_irem dL_act_148 (by decide) ?_
    refine x_cX (c9 := 2) (s9 := 12) (As := [_, _, _, _, _, _]) hO dL_act_149 o_L_addBus s_L_addBus l_L_121 ⟨by decide, by decide⟩ ⟨rfl, rfl⟩ ⟨by omega, by omega⟩ rfl rfl (Nat.le_of_ble_eq_true rfl) (l_addBus hN hO hX hT h (fun C1 h => ?_))
    dsimp only [Option.toList, List.cons_append, List.nil_append]
    refine x_lret dL_act_152 rfl ?_
    exact hq _ (RF_mono h (by omega))
  · skip
    refine ⟨(lw jA jS 0 (aAddBus (S, n, ρ, L, K) (nI (10 + z % 100)) (((nI z) / (nI 100)) - ((nI z) / (nI 100)) / ((nI (10 + z % 100)) + (nI 1)) * ((nI (10 + z % 100)) + (nI 1))) ((nI 1) + (((nI z) / (nI 7)) - ((nI z) / (nI 7)) / (nI 90) * (nI 90))) (((nI z) / (nI 11)) - ((nI z) / (nI 11)) / (nI 24) * (nI 24)) (((nI z) / (nI 264)) - ((nI z) / (nI 264)) / (nI 24) * (nI 24))), (aAddBus (S, n, ρ, L, K) (nI (10 + z % 100)) (((nI z) / (nI 100)) - ((nI z) / (nI 100)) / ((nI (10 + z % 100)) + (nI 1)) * ((nI (10 + z % 100)) + (nI 1))) ((nI 1) + (((nI z) / (nI 7)) - ((nI z) / (nI 7)) / (nI 90) * (nI 90))) (((nI z) / (nI 11)) - ((nI z) / (nI 11)) / (nI 24) * (nI 24)) (((nI z) / (nI 264)) - ((nI z) / (nI 264)) / (nI 24) * (nI 24))).2.2), ?_⟩
    intro G C Q C0 sa va x T hN hO hX hT h hq
    refine x_iload_n dL_act_37 rfl ?_
    refine x_bipush (v := nI 24) dL_act_38 (by decide) ?_
    refine x_irem dL_act_40 (by decide) ?_
    rw [pk_rem hX9 (by decide) (by decide), hcx]
    refine x_tableIn (off := 63) (tgt := 104) dL_act_41 (by decide +kernel) (by decide +kernel) (by decide +kernel) (by decide) ?_
    refine x_bipush (v := nI 10) dL_act_104 (by decide) ?_
    refine x_iload_n dL_act_106 rfl ?_
    refine x_bipush (v := nI 100) dL_act_107 (by decide) ?_
    refine x_irem dL_act_109 (by decide) ?_
    rw [pk_rem (by omega) (by decide) (by decide)]
    refine x_iadd dL_act_110 ?_
    rw [nI_add]
    refine x_istore dL_act_111 (by decide) ?_
    refine x_aload_n dL_act_113 rfl ?_
    refine x_iload dL_act_114 rfl ?_
    refine x_iload_n dL_act_116 rfl ?_
    refine x_bipush (v := nI 100) dL_act_117 (by decide) ?_
    refine x_idiv dL_act_119 (by decide) ?_
    refine x_iload dL_act_120 rfl ?_
    refine x_iconst (v := nI 1) dL_act_122 (by decide) ?_
    refine x_iadd dL_act_123 ?_
    refine x_irem dL_act_124 (by rw [nI_add]; exact nI_ne0 (by omega) (by omega)) ?_
    refine x_iconst (v := nI 1) dL_act_125 (by decide) ?_
    refine x_iload_n dL_act_126 rfl ?_
    refine x_bipush (v := nI 7) dL_act_127 (by decide) ?_
    refine x_idiv dL_act_129 (by decide) ?_
    refine x_bipush (v := nI 90) dL_act_130 (by decide) ?_
    refine x_irem dL_act_132 (by decide) ?_
    refine x_iadd dL_act_133 ?_
    refine x_iload_n dL_act_134 rfl ?_
    refine x_bipush (v := nI 11) dL_act_135 (by decide) ?_
    refine x_idiv dL_act_137 (by decide) ?_
    refine x_bipush (v := nI 24) dL_act_138 (by decide) ?_
    refine x_irem dL_act_140 (by decide) ?_
    refine x_iload_n dL_act_141 rfl ?_
    refine x_sipush (v := nI 264) dL_act_142 (by decide) ?_
    refine x_idiv dL_act_145 (by decide) ?_
    refine x_bipush (v := nI 24) dL_act_146 (by decide) ?_
    refine x_irem dL_act_148 (by decide) ?_
    refine x_cX (c9 := 2) (s9 := 12) (As := [_, _, _, _, _, _]) hO dL_act_149 o_L_addBus s_L_addBus l_L_121 ⟨by decide, by decide⟩ ⟨rfl, rfl⟩ ⟨by omega, by omega⟩ rfl rfl (Nat.le_of_ble_eq_true rfl) (l_addBus hN hO hX hT h (fun C1 h => ?_))
    dsimp only [Option.toList, List.cons_append, List.nil_append]
    refine x_lret dL_act_152 rfl ?_
    exact hq _ (RF_mono h (by omega))
  · skip
    refine ⟨(lw jA jS 0 (aAddC (S, n, ρ, L, K) ((nI 1) + ((nI z) - (nI z) / (nI 50) * (nI 50)))), (aAddC (S, n, ρ, L, K) ((nI 1) + ((nI z) - (nI z) / (nI 50) * (nI 50)))).2.2), ?_⟩
    intro G C Q C0 sa va x T hN hO hX hT h hq
    refine x_iload_n dL_act_37 rfl ?_
    refine x_bipush (v := nI 24) dL_act_38 (by decide) ?_
    refine x_irem dL_act_40 (by decide) ?_
    rw [pk_rem hX9 (by decide) (by decide), hcx]
    refine x_tableIn (off := 112) (tgt := 153) dL_act_41 (by decide +kernel) (by decide +kernel) (by decide +kernel) (by decide) ?_
    refine x_aload_n dL_act_153 rfl ?_
    refine x_iconst (v := nI 1) dL_act_154 (by decide) ?_
    refine x_iload_n dL_act_155 rfl ?_
    refine x_bipush (v := nI 50) dL_act_156 (by decide) ?_
    refine x_irem dL_act_158 (by decide) ?_
    refine x_iadd dL_act_159 ?_
    refine x_cX (c9 := 2) (s9 := 12) (As := [_, _]) hO dL_act_160 o_L_addCharger s_L_addCharger l_L_124 ⟨by decide, by decide⟩ ⟨rfl, rfl⟩ ⟨by omega, by omega⟩ rfl rfl (Nat.le_of_ble_eq_true rfl) (l_addCharger hN hO hX hT h (fun C1 h => ?_))
    dsimp only [Option.toList, List.cons_append, List.nil_append]
    refine x_lret dL_act_163 rfl ?_
    exact hq _ (RF_mono h (by omega))
  · skip
    refine ⟨(lw jI jA jS (aRoute (S, n, ρ, L, K) b ((nI 1) + (((nI z) / (nI 8)) - ((nI z) / (nI 8)) / (nI 90) * (nI 90))) (((nI z) / (nI 720)) - ((nI z) / (nI 720)) / (nI 24) * (nI 24)) (((nI z) / (nI 17280)) - ((nI z) / (nI 17280)) / (nI 24) * (nI 24))), (aRoute (S, n, ρ, L, K) b ((nI 1) + (((nI z) / (nI 8)) - ((nI z) / (nI 8)) / (nI 90) * (nI 90))) (((nI z) / (nI 720)) - ((nI z) / (nI 720)) / (nI 24) * (nI 24)) (((nI z) / (nI 17280)) - ((nI z) / (nI 17280)) / (nI 24) * (nI 24))).2.2), ?_⟩
    intro G C Q C0 sa va x T hN hO hX hT h hq
    refine x_iload_n dL_act_37 rfl ?_
    refine x_bipush (v := nI 24) dL_act_38 (by decide) ?_
    refine x_irem dL_act_40 (by decide) ?_
    rw [pk_rem hX9 (by decide) (by decide), hcx]
    refine x_tableIn (off := 123) (tgt := 164) dL_act_41 (by decide +kernel) (by decide +kernel) (by decide +kernel) (by decide) ?_
    refine x_aload_n dL_act_164 rfl ?_
    refine x_iload dL_act_165 rfl ?_
    refine x_iconst (v := nI 1) dL_act_167 (by decide) ?_
    refine x_iload_n dL_act_168 rfl ?_
    refine x_bipush (v := nI 8) dL_act_169 (by decide) ?_
    refine x_idiv dL_act_171 (by decide) ?_
    refine x_bipush (v := nI 90) dL_act_172 (by decide) ?_
    refine x_irem dL_act_174 (by decide) ?_
    refine x_iadd dL_act_175 ?_
    refine x_iload_n dL_act_176 rfl ?_
    refine x_sipush (v := nI 720) dL_act_177 (by decide) ?_
    refine x_idiv dL_act_180 (by decide) ?_
    refine x_bipush (v := nI 24) dL_act_181 (by decide) ?_
    refine x_irem dL_act_183 (by decide) ?_
    refine x_iload_n dL_act_184 rfl ?_
    refine x_sipush (v := nI 17280) dL_act_185 (by decide) ?_
    refine x_idiv dL_act_188 (by decide) ?_
    refine x_bipush (v := nI 24) dL_act_189 (by decide) ?_
    refine x_irem dL_act_191 (by decide) ?_
    refine x_cX (c9 := 3) (s9 := 18) (As := [_, _, _, _, _]) hO dL_act_192 o_L_route s_L_route l_L_128 ⟨by decide, by decide⟩ ⟨rfl, rfl⟩ ⟨by omega, by omega⟩ rfl rfl (Nat.le_of_ble_eq_true rfl) (l_route hN hO hX hT h (fun C1 h => ?_))
    dsimp only [Option.toList, List.cons_append, List.nil_append]
    refine x_lret dL_act_195 rfl ?_
    exact hq _ (RF_mono h (by omega))
  · skip
    refine ⟨(lw jI jA jS (aRoute (S, n, ρ, L, K) b ((nI 1) + (((nI z) / (nI 8)) - ((nI z) / (nI 8)) / (nI 90) * (nI 90))) (((nI z) / (nI 720)) - ((nI z) / (nI 720)) / (nI 24) * (nI 24)) (((nI z) / (nI 17280)) - ((nI z) / (nI 17280)) / (nI 24) * (nI 24))), (aRoute (S, n, ρ, L, K) b ((nI 1) + (((nI z) / (nI 8)) - ((nI z) / (nI 8)) / (nI 90) * (nI 90))) (((nI z) / (nI 720)) - ((nI z) / (nI 720)) / (nI 24) * (nI 24)) (((nI z) / (nI 17280)) - ((nI z) / (nI 17280)) / (nI 24) * (nI 24))).2.2), ?_⟩
    intro G C Q C0 sa va x T hN hO hX hT h hq
    refine x_iload_n dL_act_37 rfl ?_
    refine x_bipush (v := nI 24) dL_act_38 (by decide) ?_
    refine x_irem dL_act_40 (by decide) ?_
    rw [pk_rem hX9 (by decide) (by decide), hcx]
    refine x_tableIn (off := 123) (tgt := 164) dL_act_41 (by decide +kernel) (by decide +kernel) (by decide +kernel) (by decide) ?_
    refine x_aload_n dL_act_164 rfl ?_
    refine x_iload dL_act_165 rfl ?_
    refine x_iconst (v := nI 1) dL_act_167 (by decide) ?_
    refine x_iload_n dL_act_168 rfl ?_
    refine x_bipush (v := nI 8) dL_act_169 (by decide) ?_
    refine x_idiv dL_act_171 (by decide) ?_
    refine x_bipush (v := nI 90) dL_act_172 (by decide) ?_
    refine x_irem dL_act_174 (by decide) ?_
    refine x_iadd dL_act_175 ?_
    refine x_iload_n dL_act_176 rfl ?_
    refine x_sipush (v := nI 720) dL_act_177 (by decide) ?_
    refine x_idiv dL_act_180 (by decide) ?_
    refine x_bipush (v := nI 24) dL_act_181 (by decide) ?_
    refine x_irem dL_act_183 (by decide) ?_
    refine x_iload_n dL_act_184 rfl ?_
    refine x_sipush (v := nI 17280) dL_act_185 (by decide) ?_
    refine x_idiv dL_act_188 (by decide) ?_
    refine x_bipush (v := nI 24) dL_act_189 (by decide) ?_
    refine x_irem dL_act_191 (by decide) ?_
    refine x_cX (c9 := 3) (s9 := 18) (As := [_, _, _, _, _]) hO dL_act_192 o_L_route s_L_route l_L_128 ⟨by decide, by decide⟩ ⟨rfl, rfl⟩ ⟨by omega, by omega⟩ rfl rfl (Nat.le_of_ble_eq_true rfl) (l_route hN hO hX hT h (fun C1 h => ?_))
    dsimp only [Option.toList, List.cons_append, List.nil_append]
    refine x_lret dL_act_195 rfl ?_
    exact hq _ (RF_mono h (by omega))
  · skip
    refine ⟨(lw jI jA jS (aRoute (S, n, ρ, L, K) b ((nI 1) + (((nI z) / (nI 8)) - ((nI z) / (nI 8)) / (nI 90) * (nI 90))) (((nI z) / (nI 720)) - ((nI z) / (nI 720)) / (nI 24) * (nI 24)) (((nI z) / (nI 17280)) - ((nI z) / (nI 17280)) / (nI 24) * (nI 24))), (aRoute (S, n, ρ, L, K) b ((nI 1) + (((nI z) / (nI 8)) - ((nI z) / (nI 8)) / (nI 90) * (nI 90))) (((nI z) / (nI 720)) - ((nI z) / (nI 720)) / (nI 24) * (nI 24)) (((nI z) / (nI 17280)) - ((nI z) / (nI 17280)) / (nI 24) * (nI 24))).2.2), ?_⟩
    intro G C Q C0 sa va x T hN hO hX hT h hq
    refine x_iload_n dL_act_37 rfl ?_
    refine x_bipush (v := nI 24) dL_act_38 (by decide) ?_
    refine x_irem dL_act_40 (by decide) ?_
    rw [pk_rem hX9 (by decide) (by decide), hcx]
    refine x_tableIn (off := 123) (tgt := 164) dL_act_41 (by decide +kernel) (by decide +kernel) (by decide +kernel) (by decide) ?_
    refine x_aload_n dL_act_164 rfl ?_
    refine x_iload dL_act_165 rfl ?_
    refine x_iconst (v := nI 1) dL_act_167 (by decide) ?_
    refine x_iload_n dL_act_168 rfl ?_
    refine x_bipush (v := nI 8) dL_act_169 (by decide) ?_
    refine x_idiv dL_act_171 (by decide) ?_
    refine x_bipush (v := nI 90) dL_act_172 (by decide) ?_
    refine x_irem dL_act_174 (by decide) ?_
    refine x_iadd dL_act_175 ?_
    refine x_iload_n dL_act_176 rfl ?_
    refine x_sipush (v := nI 720) dL_act_177 (by decide) ?_
    refine x_idiv dL_act_180 (by decide) ?_
    refine x_bipush (v := nI 24) dL_act_181 (by decide) ?_
    refine x_irem dL_act_183 (by decide) ?_
    refine x_iload_n dL_act_184 rfl ?_
    refine x_sipush (v := nI 17280) dL_act_185 (by decide) ?_
    refine x_idiv dL_act_188 (by decide) ?_
    refine x_bipush (v := nI 24) dL_act_189 (by decide) ?_
    refine x_irem dL_act_191 (by decide) ?_
    refine x_cX (c9 := 3) (s9 := 18) (As := [_, _, _, _, _]) hO dL_act_192 o_L_route s_L_route l_L_128 ⟨by decide, by decide⟩ ⟨rfl, rfl⟩ ⟨by omega, by omega⟩ rfl rfl (Nat.le_of_ble_eq_true rfl) (l_route hN hO hX hT h (fun C1 h => ?_))
    dsimp only [Option.toList, List.cons_append, List.nil_append]
    refine x_lret dL_act_195 rfl ?_
    exact hq _ (RF_mono h (by omega))
  · skip
    refine ⟨(lw jI jA jS (aBattery (S, n, ρ, L, K) b ((nI 10) + (((nI z) / (nI 8)) - ((nI z) / (nI 8)) / (nI 150) * (nI 150)))), (aBattery (S, n, ρ, L, K) b ((nI 10) + (((nI z) / (nI 8)) - ((nI z) / (nI 8)) / (nI 150) * (nI 150)))).2.2), ?_⟩
    intro G C Q C0 sa va x T hN hO hX hT h hq
    refine x_iload_n dL_act_37 rfl ?_
    refine x_bipush (v := nI 24) dL_act_38 (by decide) ?_
    refine x_irem dL_act_40 (by decide) ?_
    rw [pk_rem hX9 (by decide) (by decide), hcx]
    refine x_tableIn (off := 155) (tgt := 196) dL_act_41 (by decide +kernel) (by decide +kernel) (by decide +kernel) (by decide) ?_
    refine x_aload_n dL_act_196 rfl ?_
    refine x_iload dL_act_197 rfl ?_
    refine x_bipush (v := nI 10) dL_act_199 (by decide) ?_
    refine x_iload_n dL_act_201 rfl ?_
    refine x_bipush (v := nI 8) dL_act_202 (by decide) ?_
    refine x_idiv dL_act_204 (by decide) ?_
    refine x_sipush (v := nI 150) dL_act_205 (by decide) ?_
    refine x_irem dL_act_208 (by decide) ?_
    refine x_iadd dL_act_209 ?_
    refine x_cX (c9 := 3) (s9 := 18) (As := [_, _, _]) hO dL_act_210 o_L_battery s_L_battery l_L_131 ⟨by decide, by decide⟩ ⟨rfl, rfl⟩ ⟨by omega, by omega⟩ rfl rfl (Nat.le_of_ble_eq_true rfl) (l_battery hN hO hX hT h (fun C1 h => ?_))
    dsimp only [Option.toList, List.cons_append, List.nil_append]
    refine x_lret dL_act_213 rfl ?_
    exact hq _ (RF_mono h (by omega))
  · skip
    refine ⟨(lw jI jA jS (aBattery (S, n, ρ, L, K) b ((nI 10) + (((nI z) / (nI 8)) - ((nI z) / (nI 8)) / (nI 150) * (nI 150)))), (aBattery (S, n, ρ, L, K) b ((nI 10) + (((nI z) / (nI 8)) - ((nI z) / (nI 8)) / (nI 150) * (nI 150)))).2.2), ?_⟩
    intro G C Q C0 sa va x T hN hO hX hT h hq
    refine x_iload_n dL_act_37 rfl ?_
    refine x_bipush (v := nI 24) dL_act_38 (by decide) ?_
    refine x_irem dL_act_40 (by decide) ?_
    rw [pk_rem hX9 (by decide) (by decide), hcx]
    refine x_tableIn (off := 155) (tgt := 196) dL_act_41 (by decide +kernel) (by decide +kernel) (by decide +kernel) (by decide) ?_
    refine x_aload_n dL_act_196 rfl ?_
    refine x_iload dL_act_197 rfl ?_
    refine x_bipush (v := nI 10) dL_act_199 (by decide) ?_
    refine x_iload_n dL_act_201 rfl ?_
    refine x_bipush (v := nI 8) dL_act_202 (by decide) ?_
    refine x_idiv dL_act_204 (by decide) ?_
    refine x_sipush (v := nI 150) dL_act_205 (by decide) ?_
    refine x_irem dL_act_208 (by decide) ?_
    refine x_iadd dL_act_209 ?_
    refine x_cX (c9 := 3) (s9 := 18) (As := [_, _, _]) hO dL_act_210 o_L_battery s_L_battery l_L_131 ⟨by decide, by decide⟩ ⟨rfl, rfl⟩ ⟨by omega, by omega⟩ rfl rfl (Nat.le_of_ble_eq_true rfl) (l_battery hN hO hX hT h (fun C1 h => ?_))
    dsimp only [Option.toList, List.cons_append, List.nil_append]
    refine x_lret dL_act_213 rfl ?_
    exact hq _ (RF_mono h (by omega))
  · by_cases h0 : z % 6 = 0
    · skip
      refine ⟨(lw jA 0 0 (aSet (S, n, ρ, L, K) (nI (z % 6)) (((nI z) / (nI 6)) - ((nI z) / (nI 6)) / (nI 120) * (nI 120))), (aSet (S, n, ρ, L, K) (nI (z % 6)) (((nI z) / (nI 6)) - ((nI z) / (nI 6)) / (nI 120) * (nI 120))).2.2), ?_⟩
      intro G C Q C0 sa va x T hN hO hX hT h hq
      refine x_iload_n dL_act_37 rfl ?_
      refine x_bipush (v := nI 24) dL_act_38 (by decide) ?_
      refine x_irem dL_act_40 (by decide) ?_
      rw [pk_rem hX9 (by decide) (by decide), hcx]
      refine x_tableIn (off := 173) (tgt := 214) dL_act_41 (by decide +kernel) (by decide +kernel) (by decide +kernel) (by decide) ?_
      refine x_iload_n dL_act_214 rfl ?_
      refine x_bipush (v := nI 6) dL_act_215 (by decide) ?_
      refine x_irem dL_act_217 (by decide) ?_
      rw [pk_rem (by omega) (by decide) (by decide)]
      refine x_istore dL_act_218 (by decide) ?_
      refine x_aload_n dL_act_220 rfl ?_
      refine x_iload dL_act_221 rfl ?_
      refine x_iload dL_act_223 rfl ?_
      refine x_if_neN (tgt := 238) dL_act_225 (by decide) (congrArg nI h0) ?_
      refine x_iload_n dL_act_228 rfl ?_
      refine x_bipush (v := nI 6) dL_act_229 (by decide) ?_
      refine x_idiv dL_act_231 (by decide) ?_
      refine x_bipush (v := nI 120) dL_act_232 (by decide) ?_
      refine x_irem dL_act_234 (by decide) ?_
      refine x_goto (tgt := 263) dL_act_235 (by decide) ?_
      refine x_cX (c9 := 1) (s9 := 6) (As := [_, _, _]) hO dL_act_263 o_L_set s_L_set l_L_135 ⟨by decide, by decide⟩ ⟨rfl, rfl⟩ ⟨by omega, by omega⟩ rfl rfl (Nat.le_of_ble_eq_true rfl) (l_set hN hO hX hT h (fun C1 h => ?_))
      dsimp only [Option.toList, List.cons_append, List.nil_append]
      refine x_lret dL_act_266 rfl ?_
      exact hq _ (RF_mono h (by omega))
    by_cases h5 : z % 6 = 5
    · skip
      refine ⟨(lw jA 0 0 (aSet (S, n, ρ, L, K) (nI (z % 6)) (((nI z) / (nI 6)) - ((nI z) / (nI 6)) / (nI 24) * (nI 24))), (aSet (S, n, ρ, L, K) (nI (z % 6)) (((nI z) / (nI 6)) - ((nI z) / (nI 6)) / (nI 24) * (nI 24))).2.2), ?_⟩
      intro G C Q C0 sa va x T hN hO hX hT h hq
      refine x_iload_n dL_act_37 rfl ?_
      refine x_bipush (v := nI 24) dL_act_38 (by decide) ?_
      refine x_irem dL_act_40 (by decide) ?_
      rw [pk_rem hX9 (by decide) (by decide), hcx]
      refine x_tableIn (off := 173) (tgt := 214) dL_act_41 (by decide +kernel) (by decide +kernel) (by decide +kernel) (by decide) ?_
      refine x_iload_n dL_act_214 rfl ?_
      refine x_bipush (v := nI 6) dL_act_215 (by decide) ?_
      refine x_irem dL_act_217 (by decide) ?_
      rw [pk_rem (by omega) (by decide) (by decide)]
      refine x_istore dL_act_218 (by decide) ?_
      refine x_aload_n dL_act_220 rfl ?_
      refine x_iload dL_act_221 rfl ?_
      refine x_iload dL_act_223 rfl ?_
      refine x_if_neT (tgt := 238) dL_act_225 (by decide) (nI_ne0 (by omega) (by omega)) ?_
      refine x_iload dL_act_238 rfl ?_
      refine x_iconst (v := nI 5) dL_act_240 (by decide) ?_
      refine x_icmp_neN (tgt := 254) dL_act_241 (by decide) (congrArg nI h5) ?_
      refine x_iload_n dL_act_244 rfl ?_
      refine x_bipush (v := nI 6) dL_act_245 (by decide) ?_
      refine x_idiv dL_act_247 (by decide) ?_
      refine x_bipush (v := nI 24) dL_act_248 (by decide) ?_
      refine x_irem dL_act_250 (by decide) ?_
      refine x_goto (tgt := 263) dL_act_251 (by decide) ?_
      refine x_cX (c9 := 1) (s9 := 6) (As := [_, _, _]) hO dL_act_263 o_L_set s_L_set l_L_135 ⟨by decide, by decide⟩ ⟨rfl, rfl⟩ ⟨by omega, by omega⟩ rfl rfl (Nat.le_of_ble_eq_true rfl) (l_set hN hO hX hT h (fun C1 h => ?_))
      dsimp only [Option.toList, List.cons_append, List.nil_append]
      refine x_lret dL_act_266 rfl ?_
      exact hq _ (RF_mono h (by omega))
    · skip
      refine ⟨(lw jA 0 0 (aSet (S, n, ρ, L, K) (nI (z % 6)) ((nI 1) + (((nI z) / (nI 6)) - ((nI z) / (nI 6)) / (nI 30) * (nI 30)))), (aSet (S, n, ρ, L, K) (nI (z % 6)) ((nI 1) + (((nI z) / (nI 6)) - ((nI z) / (nI 6)) / (nI 30) * (nI 30)))).2.2), ?_⟩
      intro G C Q C0 sa va x T hN hO hX hT h hq
      refine x_iload_n dL_act_37 rfl ?_
      refine x_bipush (v := nI 24) dL_act_38 (by decide) ?_
      refine x_irem dL_act_40 (by decide) ?_
      rw [pk_rem hX9 (by decide) (by decide), hcx]
      refine x_tableIn (off := 173) (tgt := 214) dL_act_41 (by decide +kernel) (by decide +kernel) (by decide +kernel) (by decide) ?_
      refine x_iload_n dL_act_214 rfl ?_
      refine x_bipush (v := nI 6) dL_act_215 (by decide) ?_
      refine x_irem dL_act_217 (by decide) ?_
      rw [pk_rem (by omega) (by decide) (by decide)]
      refine x_istore dL_act_218 (by decide) ?_
      refine x_aload_n dL_act_220 rfl ?_
      refine x_iload dL_act_221 rfl ?_
      refine x_iload dL_act_223 rfl ?_
      refine x_if_neT (tgt := 238) dL_act_225 (by decide) (nI_ne0 (by omega) (by omega)) ?_
      refine x_iload dL_act_238 rfl ?_
      refine x_iconst (v := nI 5) dL_act_240 (by decide) ?_
      refine x_icmp_neT (tgt := 254) dL_act_241 (by decide) (fun q => h5 ((nI_eq (by omega) (by decide)).mp q)) ?_
      refine x_iconst (v := nI 1) dL_act_254 (by decide) ?_
      refine x_iload_n dL_act_255 rfl ?_
      refine x_bipush (v := nI 6) dL_act_256 (by decide) ?_
      refine x_idiv dL_act_258 (by decide) ?_
      refine x_bipush (v := nI 30) dL_act_259 (by decide) ?_
      refine x_irem dL_act_261 (by decide) ?_
      refine x_iadd dL_act_262 ?_
      refine x_cX (c9 := 1) (s9 := 6) (As := [_, _, _]) hO dL_act_263 o_L_set s_L_set l_L_135 ⟨by decide, by decide⟩ ⟨rfl, rfl⟩ ⟨by omega, by omega⟩ rfl rfl (Nat.le_of_ble_eq_true rfl) (l_set hN hO hX hT h (fun C1 h => ?_))
      dsimp only [Option.toList, List.cons_append, List.nil_append]
      refine x_lret dL_act_266 rfl ?_
      exact hq _ (RF_mono h (by omega))
  · by_cases h0 : z % 6 = 0
    · skip
      refine ⟨(lw jA 0 0 (aSet (S, n, ρ, L, K) (nI (z % 6)) (((nI z) / (nI 6)) - ((nI z) / (nI 6)) / (nI 120) * (nI 120))), (aSet (S, n, ρ, L, K) (nI (z % 6)) (((nI z) / (nI 6)) - ((nI z) / (nI 6)) / (nI 120) * (nI 120))).2.2), ?_⟩
      intro G C Q C0 sa va x T hN hO hX hT h hq
      refine x_iload_n dL_act_37 rfl ?_
      refine x_bipush (v := nI 24) dL_act_38 (by decide) ?_
      refine x_irem dL_act_40 (by decide) ?_
      rw [pk_rem hX9 (by decide) (by decide), hcx]
      refine x_tableIn (off := 173) (tgt := 214) dL_act_41 (by decide +kernel) (by decide +kernel) (by decide +kernel) (by decide) ?_
      refine x_iload_n dL_act_214 rfl ?_
      refine x_bipush (v := nI 6) dL_act_215 (by decide) ?_
      refine x_irem dL_act_217 (by decide) ?_
      rw [pk_rem (by omega) (by decide) (by decide)]
      refine x_istore dL_act_218 (by decide) ?_
      refine x_aload_n dL_act_220 rfl ?_
      refine x_iload dL_act_221 rfl ?_
      refine x_iload dL_act_223 rfl ?_
      refine x_if_neN (tgt := 238) dL_act_225 (by decide) (congrArg nI h0) ?_
      refine x_iload_n dL_act_228 rfl ?_
      refine x_bipush (v := nI 6) dL_act_229 (by decide) ?_
      refine x_idiv dL_act_231 (by decide) ?_
      refine x_bipush (v := nI 120) dL_act_232 (by decide) ?_
      refine x_irem dL_act_234 (by decide) ?_
      refine x_goto (tgt := 263) dL_act_235 (by decide) ?_
      refine x_cX (c9 := 1) (s9 := 6) (As := [_, _, _]) hO dL_act_263 o_L_set s_L_set l_L_135 ⟨by decide, by decide⟩ ⟨rfl, rfl⟩ ⟨by omega, by omega⟩ rfl rfl (Nat.le_of_ble_eq_true rfl) (l_set hN hO hX hT h (fun C1 h => ?_))
      dsimp only [Option.toList, List.cons_append, List.nil_append]
      refine x_lret dL_act_266 rfl ?_
      exact hq _ (RF_mono h (by omega))
    by_cases h5 : z % 6 = 5
    · skip
      refine ⟨(lw jA 0 0 (aSet (S, n, ρ, L, K) (nI (z % 6)) (((nI z) / (nI 6)) - ((nI z) / (nI 6)) / (nI 24) * (nI 24))), (aSet (S, n, ρ, L, K) (nI (z % 6)) (((nI z) / (nI 6)) - ((nI z) / (nI 6)) / (nI 24) * (nI 24))).2.2), ?_⟩
      intro G C Q C0 sa va x T hN hO hX hT h hq
      refine x_iload_n dL_act_37 rfl ?_
      refine x_bipush (v := nI 24) dL_act_38 (by decide) ?_
      refine x_irem dL_act_40 (by decide) ?_
      rw [pk_rem hX9 (by decide) (by decide), hcx]
      refine x_tableIn (off := 173) (tgt := 214) dL_act_41 (by decide +kernel) (by decide +kernel) (by decide +kernel) (by decide) ?_
      refine x_iload_n dL_act_214 rfl ?_
      refine x_bipush (v := nI 6) dL_act_215 (by decide) ?_
      refine x_irem dL_act_217 (by decide) ?_
      rw [pk_rem (by omega) (by decide) (by decide)]
      refine x_istore dL_act_218 (by decide) ?_
      refine x_aload_n dL_act_220 rfl ?_
      refine x_iload dL_act_221 rfl ?_
      refine x_iload dL_act_223 rfl ?_
      refine x_if_neT (tgt := 238) dL_act_225 (by decide) (nI_ne0 (by omega) (by omega)) ?_
      refine x_iload dL_act_238 rfl ?_
      refine x_iconst (v := nI 5) dL_act_240 (by decide) ?_
      refine x_icmp_neN (tgt := 254) dL_act_241 (by decide) (congrArg nI h5) ?_
      refine x_iload_n dL_act_244 rfl ?_
      refine x_bipush (v := nI 6) dL_act_245 (by decide) ?_
      refine x_idiv dL_act_247 (by decide) ?_
      refine x_bipush (v := nI 24) dL_act_248 (by decide) ?_
      refine x_irem dL_act_250 (by decide) ?_
      refine x_goto (tgt := 263) dL_act_251 (by decide) ?_
      refine x_cX (c9 := 1) (s9 := 6) (As := [_, _, _]) hO dL_act_263 o_L_set s_L_set l_L_135 ⟨by decide, by decide⟩ ⟨rfl, rfl⟩ ⟨by omega, by omega⟩ rfl rfl (Nat.le_of_ble_eq_true rfl) (l_set hN hO hX hT h (fun C1 h => ?_))
      dsimp only [Option.toList, List.cons_append, List.nil_append]
      refine x_lret dL_act_266 rfl ?_
      exact hq _ (RF_mono h (by omega))
    · skip
      refine ⟨(lw jA 0 0 (aSet (S, n, ρ, L, K) (nI (z % 6)) ((nI 1) + (((nI z) / (nI 6)) - ((nI z) / (nI 6)) / (nI 30) * (nI 30)))), (aSet (S, n, ρ, L, K) (nI (z % 6)) ((nI 1) + (((nI z) / (nI 6)) - ((nI z) / (nI 6)) / (nI 30) * (nI 30)))).2.2), ?_⟩
      intro G C Q C0 sa va x T hN hO hX hT h hq
      refine x_iload_n dL_act_37 rfl ?_
      refine x_bipush (v := nI 24) dL_act_38 (by decide) ?_
      refine x_irem dL_act_40 (by decide) ?_
      rw [pk_rem hX9 (by decide) (by decide), hcx]
      refine x_tableIn (off := 173) (tgt := 214) dL_act_41 (by decide +kernel) (by decide +kernel) (by decide +kernel) (by decide) ?_
      refine x_iload_n dL_act_214 rfl ?_
      refine x_bipush (v := nI 6) dL_act_215 (by decide) ?_
      refine x_irem dL_act_217 (by decide) ?_
      rw [pk_rem (by omega) (by decide) (by decide)]
      refine x_istore dL_act_218 (by decide) ?_
      refine x_aload_n dL_act_220 rfl ?_
      refine x_iload dL_act_221 rfl ?_
      refine x_iload dL_act_223 rfl ?_
      refine x_if_neT (tgt := 238) dL_act_225 (by decide) (nI_ne0 (by omega) (by omega)) ?_
      refine x_iload dL_act_238 rfl ?_
      refine x_iconst (v := nI 5) dL_act_240 (by decide) ?_
      refine x_icmp_neT (tgt := 254) dL_act_241 (by decide) (fun q => h5 ((nI_eq (by omega) (by decide)).mp q)) ?_
      refine x_iconst (v := nI 1) dL_act_254 (by decide) ?_
      refine x_iload_n dL_act_255 rfl ?_
      refine x_bipush (v := nI 6) dL_act_256 (by decide) ?_
      refine x_idiv dL_act_258 (by decide) ?_
      refine x_bipush (v := nI 30) dL_act_259 (by decide) ?_
      refine x_irem dL_act_261 (by decide) ?_
      refine x_iadd dL_act_262 ?_
      refine x_cX (c9 := 1) (s9 := 6) (As := [_, _, _]) hO dL_act_263 o_L_set s_L_set l_L_135 ⟨by decide, by decide⟩ ⟨rfl, rfl⟩ ⟨by omega, by omega⟩ rfl rfl (Nat.le_of_ble_eq_true rfl) (l_set hN hO hX hT h (fun C1 h => ?_))
      dsimp only [Option.toList, List.cons_append, List.nil_append]
      refine x_lret dL_act_266 rfl ?_
      exact hq _ (RF_mono h (by omega))
  · skip
    refine ⟨(lw jS 0 0 (aUndo (S, n, ρ, L, K)), (aUndo (S, n, ρ, L, K)).2.2), ?_⟩
    intro G C Q C0 sa va x T hN hO hX hT h hq
    refine x_iload_n dL_act_37 rfl ?_
    refine x_bipush (v := nI 24) dL_act_38 (by decide) ?_
    refine x_irem dL_act_40 (by decide) ?_
    rw [pk_rem hX9 (by decide) (by decide), hcx]
    refine x_tableIn (off := 226) (tgt := 267) dL_act_41 (by decide +kernel) (by decide +kernel) (by decide +kernel) (by decide) ?_
    refine x_aload_n dL_act_267 rfl ?_
    refine x_cX (c9 := 1) (s9 := 6) (As := [_]) hO dL_act_268 o_L_undo s_L_undo l_L_197 ⟨by decide, by decide⟩ ⟨rfl, rfl⟩ ⟨by omega, by omega⟩ rfl rfl (Nat.le_of_ble_eq_true rfl) (l_undo hN hO hX hT h (fun C1 h => ?_))
    dsimp only [Option.toList, List.cons_append, List.nil_append]
    refine x_lret dL_act_271 rfl ?_
    exact hq _ (RF_mono h (by omega))
  · by_cases h0 : z % 2 = 0
    · skip
      refine ⟨(lw jI 0 0 (aSave (S, n, ρ, L, K) (((nI z) / (nI 2)) &&& (nI 1))), (aSave (S, n, ρ, L, K) (((nI z) / (nI 2)) &&& (nI 1))).2.2), ?_⟩
      intro G C Q C0 sa va x T hN hO hX hT h hq
      refine x_iload_n dL_act_37 rfl ?_
      refine x_bipush (v := nI 24) dL_act_38 (by decide) ?_
      refine x_irem dL_act_40 (by decide) ?_
      rw [pk_rem hX9 (by decide) (by decide), hcx]
      refine x_tableIn (off := 231) (tgt := 272) dL_act_41 (by decide +kernel) (by decide +kernel) (by decide +kernel) (by decide) ?_
      refine x_iload_n dL_act_272 rfl ?_
      refine x_iconst (v := nI 2) dL_act_273 (by decide) ?_
      refine x_irem dL_act_274 (by decide) ?_
      rw [pk_rem (by omega) (by decide) (by decide)]
      refine x_if_neN (tgt := 290) dL_act_275 (by decide) (congrArg nI h0) ?_
      refine x_aload_n dL_act_278 rfl ?_
      refine x_iload_n dL_act_279 rfl ?_
      refine x_iconst (v := nI 2) dL_act_280 (by decide) ?_
      refine x_idiv dL_act_281 (by decide) ?_
      refine x_iconst (v := nI 1) dL_act_282 (by decide) ?_
      refine x_iand dL_act_283 ?_
      refine x_cX (c9 := 1) (s9 := 6) (As := [_, _]) hO dL_act_284 o_L_save s_L_save l_L_154 ⟨by decide, by decide⟩ ⟨rfl, rfl⟩ ⟨by omega, by omega⟩ rfl rfl (Nat.le_of_ble_eq_true rfl) (l_save hN hO hX hT h (fun C1 h => ?_))
      dsimp only [Option.toList, List.cons_append, List.nil_append]
      refine x_goto (tgt := 299) dL_act_287 (by decide) ?_
      refine x_lret dL_act_299 rfl ?_
      exact hq _ (RF_mono h (by omega))
    · skip
      refine ⟨(lw jI jS 0 (aRestore (S, n, ρ, L, K) (((nI z) / (nI 2)) &&& (nI 1))), (aRestore (S, n, ρ, L, K) (((nI z) / (nI 2)) &&& (nI 1))).2.2), ?_⟩
      intro G C Q C0 sa va x T hN hO hX hT h hq
      refine x_iload_n dL_act_37 rfl ?_
      refine x_bipush (v := nI 24) dL_act_38 (by decide) ?_
      refine x_irem dL_act_40 (by decide) ?_
      rw [pk_rem hX9 (by decide) (by decide), hcx]
      refine x_tableIn (off := 231) (tgt := 272) dL_act_41 (by decide +kernel) (by decide +kernel) (by decide +kernel) (by decide) ?_
      refine x_iload_n dL_act_272 rfl ?_
      refine x_iconst (v := nI 2) dL_act_273 (by decide) ?_
      refine x_irem dL_act_274 (by decide) ?_
      rw [pk_rem (by omega) (by decide) (by decide)]
      refine x_if_neT (tgt := 290) dL_act_275 (by decide) (nI_ne0 (by omega) (by omega)) ?_
      refine x_aload_n dL_act_290 rfl ?_
      refine x_iload_n dL_act_291 rfl ?_
      refine x_iconst (v := nI 2) dL_act_292 (by decide) ?_
      refine x_idiv dL_act_293 (by decide) ?_
      refine x_iconst (v := nI 1) dL_act_294 (by decide) ?_
      refine x_iand dL_act_295 ?_
      refine x_cX (c9 := 2) (s9 := 12) (As := [_, _]) hO dL_act_296 o_L_restore s_L_restore l_L_156 ⟨by decide, by decide⟩ ⟨rfl, rfl⟩ ⟨by omega, by omega⟩ rfl rfl (Nat.le_of_ble_eq_true rfl) (l_restore hN hO hX hT h (fun C1 h => ?_))
      dsimp only [Option.toList, List.cons_append, List.nil_append]
      refine x_lret dL_act_299 rfl ?_
      exact hq _ (RF_mono h (by omega))
  · by_cases h0 : z % 4 = 0
    · skip
      refine ⟨(lw jA 0 0 (aRun (S, n, ρ, L, K) ((nI 1) + ((nI z) - (nI z) / (nI 48) * (nI 48)))), (aRun (S, n, ρ, L, K) ((nI 1) + ((nI z) - (nI z) / (nI 48) * (nI 48)))).2.2), ?_⟩
      intro G C Q C0 sa va x T hN hO hX hT h hq
      refine x_iload_n dL_act_37 rfl ?_
      refine x_bipush (v := nI 24) dL_act_38 (by decide) ?_
      refine x_irem dL_act_40 (by decide) ?_
      rw [pk_rem hX9 (by decide) (by decide), hcx]
      refine x_tableOut (tgt := 300) dL_act_41 (by decide +kernel) (by decide) ?_
      refine x_aload_n dL_act_300 rfl ?_
      refine x_iconst (v := nI 1) dL_act_301 (by decide) ?_
      refine x_iload_n dL_act_302 rfl ?_
      refine x_iload_n dL_act_303 rfl ?_
      refine x_iconst (v := nI 4) dL_act_304 (by decide) ?_
      refine x_irem dL_act_305 (by decide) ?_
      rw [pk_rem (by omega) (by decide) (by decide)]
      refine x_if_neN (tgt := 314) dL_act_306 (by decide) (congrArg nI h0) ?_
      refine x_bipush (v := nI 48) dL_act_309 (by decide) ?_
      refine x_goto (tgt := 316) dL_act_311 (by decide) ?_
      refine x_irem dL_act_316 (by decide) ?_
      refine x_iadd dL_act_317 ?_
      refine x_cX (c9 := 1) (s9 := 6) (As := [_, _]) hO dL_act_318 o_L_run s_L_run l_L_133 ⟨by decide, by decide⟩ ⟨rfl, rfl⟩ ⟨by omega, by omega⟩ rfl rfl (Nat.le_of_ble_eq_true rfl) (l_run hN hO hX hT h (fun C1 h => ?_))
      dsimp only [Option.toList, List.cons_append, List.nil_append]
      refine x_lret dL_act_321 rfl ?_
      exact hq _ (RF_mono h (by omega))
    · skip
      refine ⟨(lw jA 0 0 (aRun (S, n, ρ, L, K) ((nI 1) + ((nI z) - (nI z) / (nI 6) * (nI 6)))), (aRun (S, n, ρ, L, K) ((nI 1) + ((nI z) - (nI z) / (nI 6) * (nI 6)))).2.2), ?_⟩
      intro G C Q C0 sa va x T hN hO hX hT h hq
      refine x_iload_n dL_act_37 rfl ?_
      refine x_bipush (v := nI 24) dL_act_38 (by decide) ?_
      refine x_irem dL_act_40 (by decide) ?_
      rw [pk_rem hX9 (by decide) (by decide), hcx]
      refine x_tableOut (tgt := 300) dL_act_41 (by decide +kernel) (by decide) ?_
      refine x_aload_n dL_act_300 rfl ?_
      refine x_iconst (v := nI 1) dL_act_301 (by decide) ?_
      refine x_iload_n dL_act_302 rfl ?_
      refine x_iload_n dL_act_303 rfl ?_
      refine x_iconst (v := nI 4) dL_act_304 (by decide) ?_
      refine x_irem dL_act_305 (by decide) ?_
      rw [pk_rem (by omega) (by decide) (by decide)]
      refine x_if_neT (tgt := 314) dL_act_306 (by decide) (nI_ne0 (by omega) (by omega)) ?_
      refine x_bipush (v := nI 6) dL_act_314 (by decide) ?_
      refine x_irem dL_act_316 (by decide) ?_
      refine x_iadd dL_act_317 ?_
      refine x_cX (c9 := 1) (s9 := 6) (As := [_, _]) hO dL_act_318 o_L_run s_L_run l_L_133 ⟨by decide, by decide⟩ ⟨rfl, rfl⟩ ⟨by omega, by omega⟩ rfl rfl (Nat.le_of_ble_eq_true rfl) (l_run hN hO hX hT h (fun C1 h => ?_))
      dsimp only [Option.toList, List.cons_append, List.nil_append]
      refine x_lret dL_act_321 rfl ?_
      exact hq _ (RF_mono h (by omega))
  · by_cases h0 : z % 4 = 0
    · skip
      refine ⟨(lw jA 0 0 (aRun (S, n, ρ, L, K) ((nI 1) + ((nI z) - (nI z) / (nI 48) * (nI 48)))), (aRun (S, n, ρ, L, K) ((nI 1) + ((nI z) - (nI z) / (nI 48) * (nI 48)))).2.2), ?_⟩
      intro G C Q C0 sa va x T hN hO hX hT h hq
      refine x_iload_n dL_act_37 rfl ?_
      refine x_bipush (v := nI 24) dL_act_38 (by decide) ?_
      refine x_irem dL_act_40 (by decide) ?_
      rw [pk_rem hX9 (by decide) (by decide), hcx]
      refine x_tableOut (tgt := 300) dL_act_41 (by decide +kernel) (by decide) ?_
      refine x_aload_n dL_act_300 rfl ?_
      refine x_iconst (v := nI 1) dL_act_301 (by decide) ?_
      refine x_iload_n dL_act_302 rfl ?_
      refine x_iload_n dL_act_303 rfl ?_
      refine x_iconst (v := nI 4) dL_act_304 (by decide) ?_
      refine x_irem dL_act_305 (by decide) ?_
      rw [pk_rem (by omega) (by decide) (by decide)]
      refine x_if_neN (tgt := 314) dL_act_306 (by decide) (congrArg nI h0) ?_
      refine x_bipush (v := nI 48) dL_act_309 (by decide) ?_
      refine x_goto (tgt := 316) dL_act_311 (by decide) ?_
      refine x_irem dL_act_316 (by decide) ?_
      refine x_iadd dL_act_317 ?_
      refine x_cX (c9 := 1) (s9 := 6) (As := [_, _]) hO dL_act_318 o_L_run s_L_run l_L_133 ⟨by decide, by decide⟩ ⟨rfl, rfl⟩ ⟨by omega, by omega⟩ rfl rfl (Nat.le_of_ble_eq_true rfl) (l_run hN hO hX hT h (fun C1 h => ?_))
      dsimp only [Option.toList, List.cons_append, List.nil_append]
      refine x_lret dL_act_321 rfl ?_
      exact hq _ (RF_mono h (by omega))
    · skip
      refine ⟨(lw jA 0 0 (aRun (S, n, ρ, L, K) ((nI 1) + ((nI z) - (nI z) / (nI 6) * (nI 6)))), (aRun (S, n, ρ, L, K) ((nI 1) + ((nI z) - (nI z) / (nI 6) * (nI 6)))).2.2), ?_⟩
      intro G C Q C0 sa va x T hN hO hX hT h hq
      refine x_iload_n dL_act_37 rfl ?_
      refine x_bipush (v := nI 24) dL_act_38 (by decide) ?_
      refine x_irem dL_act_40 (by decide) ?_
      rw [pk_rem hX9 (by decide) (by decide), hcx]
      refine x_tableOut (tgt := 300) dL_act_41 (by decide +kernel) (by decide) ?_
      refine x_aload_n dL_act_300 rfl ?_
      refine x_iconst (v := nI 1) dL_act_301 (by decide) ?_
      refine x_iload_n dL_act_302 rfl ?_
      refine x_iload_n dL_act_303 rfl ?_
      refine x_iconst (v := nI 4) dL_act_304 (by decide) ?_
      refine x_irem dL_act_305 (by decide) ?_
      rw [pk_rem (by omega) (by decide) (by decide)]
      refine x_if_neT (tgt := 314) dL_act_306 (by decide) (nI_ne0 (by omega) (by omega)) ?_
      refine x_bipush (v := nI 6) dL_act_314 (by decide) ?_
      refine x_irem dL_act_316 (by decide) ?_
      refine x_iadd dL_act_317 ?_
      refine x_cX (c9 := 1) (s9 := 6) (As := [_, _]) hO dL_act_318 o_L_run s_L_run l_L_133 ⟨by decide, by decide⟩ ⟨rfl, rfl⟩ ⟨by omega, by omega⟩ rfl rfl (Nat.le_of_ble_eq_true rfl) (l_run hN hO hX hT h (fun C1 h => ?_))
      dsimp only [Option.toList, List.cons_append, List.nil_append]
      refine x_lret dL_act_321 rfl ?_
      exact hq _ (RF_mono h (by omega))
  · by_cases h0 : z % 4 = 0
    · skip
      refine ⟨(lw jA 0 0 (aRun (S, n, ρ, L, K) ((nI 1) + ((nI z) - (nI z) / (nI 48) * (nI 48)))), (aRun (S, n, ρ, L, K) ((nI 1) + ((nI z) - (nI z) / (nI 48) * (nI 48)))).2.2), ?_⟩
      intro G C Q C0 sa va x T hN hO hX hT h hq
      refine x_iload_n dL_act_37 rfl ?_
      refine x_bipush (v := nI 24) dL_act_38 (by decide) ?_
      refine x_irem dL_act_40 (by decide) ?_
      rw [pk_rem hX9 (by decide) (by decide), hcx]
      refine x_tableOut (tgt := 300) dL_act_41 (by decide +kernel) (by decide) ?_
      refine x_aload_n dL_act_300 rfl ?_
      refine x_iconst (v := nI 1) dL_act_301 (by decide) ?_
      refine x_iload_n dL_act_302 rfl ?_
      refine x_iload_n dL_act_303 rfl ?_
      refine x_iconst (v := nI 4) dL_act_304 (by decide) ?_
      refine x_irem dL_act_305 (by decide) ?_
      rw [pk_rem (by omega) (by decide) (by decide)]
      refine x_if_neN (tgt := 314) dL_act_306 (by decide) (congrArg nI h0) ?_
      refine x_bipush (v := nI 48) dL_act_309 (by decide) ?_
      refine x_goto (tgt := 316) dL_act_311 (by decide) ?_
      refine x_irem dL_act_316 (by decide) ?_
      refine x_iadd dL_act_317 ?_
      refine x_cX (c9 := 1) (s9 := 6) (As := [_, _]) hO dL_act_318 o_L_run s_L_run l_L_133 ⟨by decide, by decide⟩ ⟨rfl, rfl⟩ ⟨by omega, by omega⟩ rfl rfl (Nat.le_of_ble_eq_true rfl) (l_run hN hO hX hT h (fun C1 h => ?_))
      dsimp only [Option.toList, List.cons_append, List.nil_append]
      refine x_lret dL_act_321 rfl ?_
      exact hq _ (RF_mono h (by omega))
    · skip
      refine ⟨(lw jA 0 0 (aRun (S, n, ρ, L, K) ((nI 1) + ((nI z) - (nI z) / (nI 6) * (nI 6)))), (aRun (S, n, ρ, L, K) ((nI 1) + ((nI z) - (nI z) / (nI 6) * (nI 6)))).2.2), ?_⟩
      intro G C Q C0 sa va x T hN hO hX hT h hq
      refine x_iload_n dL_act_37 rfl ?_
      refine x_bipush (v := nI 24) dL_act_38 (by decide) ?_
      refine x_irem dL_act_40 (by decide) ?_
      rw [pk_rem hX9 (by decide) (by decide), hcx]
      refine x_tableOut (tgt := 300) dL_act_41 (by decide +kernel) (by decide) ?_
      refine x_aload_n dL_act_300 rfl ?_
      refine x_iconst (v := nI 1) dL_act_301 (by decide) ?_
      refine x_iload_n dL_act_302 rfl ?_
      refine x_iload_n dL_act_303 rfl ?_
      refine x_iconst (v := nI 4) dL_act_304 (by decide) ?_
      refine x_irem dL_act_305 (by decide) ?_
      rw [pk_rem (by omega) (by decide) (by decide)]
      refine x_if_neT (tgt := 314) dL_act_306 (by decide) (nI_ne0 (by omega) (by omega)) ?_
      refine x_bipush (v := nI 6) dL_act_314 (by decide) ?_
      refine x_irem dL_act_316 (by decide) ?_
      refine x_iadd dL_act_317 ?_
      refine x_cX (c9 := 1) (s9 := 6) (As := [_, _]) hO dL_act_318 o_L_run s_L_run l_L_133 ⟨by decide, by decide⟩ ⟨rfl, rfl⟩ ⟨by omega, by omega⟩ rfl rfl (Nat.le_of_ble_eq_true rfl) (l_run hN hO hX hT h (fun C1 h => ?_))
      dsimp only [Option.toList, List.cons_append, List.nil_append]
      refine x_lret dL_act_321 rfl ?_
      exact hq _ (RF_mono h (by omega))
  · by_cases h0 : z % 4 = 0
    · skip
      refine ⟨(lw jA 0 0 (aRun (S, n, ρ, L, K) ((nI 1) + ((nI z) - (nI z) / (nI 48) * (nI 48)))), (aRun (S, n, ρ, L, K) ((nI 1) + ((nI z) - (nI z) / (nI 48) * (nI 48)))).2.2), ?_⟩
      intro G C Q C0 sa va x T hN hO hX hT h hq
      refine x_iload_n dL_act_37 rfl ?_
      refine x_bipush (v := nI 24) dL_act_38 (by decide) ?_
      refine x_irem dL_act_40 (by decide) ?_
      rw [pk_rem hX9 (by decide) (by decide), hcx]
      refine x_tableOut (tgt := 300) dL_act_41 (by decide +kernel) (by decide) ?_
      refine x_aload_n dL_act_300 rfl ?_
      refine x_iconst (v := nI 1) dL_act_301 (by decide) ?_
      refine x_iload_n dL_act_302 rfl ?_
      refine x_iload_n dL_act_303 rfl ?_
      refine x_iconst (v := nI 4) dL_act_304 (by decide) ?_
      refine x_irem dL_act_305 (by decide) ?_
      rw [pk_rem (by omega) (by decide) (by decide)]
      refine x_if_neN (tgt := 314) dL_act_306 (by decide) (congrArg nI h0) ?_
      refine x_bipush (v := nI 48) dL_act_309 (by decide) ?_
      refine x_goto (tgt := 316) dL_act_311 (by decide) ?_
      refine x_irem dL_act_316 (by decide) ?_
      refine x_iadd dL_act_317 ?_
      refine x_cX (c9 := 1) (s9 := 6) (As := [_, _]) hO dL_act_318 o_L_run s_L_run l_L_133 ⟨by decide, by decide⟩ ⟨rfl, rfl⟩ ⟨by omega, by omega⟩ rfl rfl (Nat.le_of_ble_eq_true rfl) (l_run hN hO hX hT h (fun C1 h => ?_))
      dsimp only [Option.toList, List.cons_append, List.nil_append]
      refine x_lret dL_act_321 rfl ?_
      exact hq _ (RF_mono h (by omega))
    · skip
      refine ⟨(lw jA 0 0 (aRun (S, n, ρ, L, K) ((nI 1) + ((nI z) - (nI z) / (nI 6) * (nI 6)))), (aRun (S, n, ρ, L, K) ((nI 1) + ((nI z) - (nI z) / (nI 6) * (nI 6)))).2.2), ?_⟩
      intro G C Q C0 sa va x T hN hO hX hT h hq
      refine x_iload_n dL_act_37 rfl ?_
      refine x_bipush (v := nI 24) dL_act_38 (by decide) ?_
      refine x_irem dL_act_40 (by decide) ?_
      rw [pk_rem hX9 (by decide) (by decide), hcx]
      refine x_tableOut (tgt := 300) dL_act_41 (by decide +kernel) (by decide) ?_
      refine x_aload_n dL_act_300 rfl ?_
      refine x_iconst (v := nI 1) dL_act_301 (by decide) ?_
      refine x_iload_n dL_act_302 rfl ?_
      refine x_iload_n dL_act_303 rfl ?_
      refine x_iconst (v := nI 4) dL_act_304 (by decide) ?_
      refine x_irem dL_act_305 (by decide) ?_
      rw [pk_rem (by omega) (by decide) (by decide)]
      refine x_if_neT (tgt := 314) dL_act_306 (by decide) (nI_ne0 (by omega) (by omega)) ?_
      refine x_bipush (v := nI 6) dL_act_314 (by decide) ?_
      refine x_irem dL_act_316 (by decide) ?_
      refine x_iadd dL_act_317 ?_
      refine x_cX (c9 := 1) (s9 := 6) (As := [_, _]) hO dL_act_318 o_L_run s_L_run l_L_133 ⟨by decide, by decide⟩ ⟨rfl, rfl⟩ ⟨by omega, by omega⟩ rfl rfl (Nat.le_of_ble_eq_true rfl) (l_run hN hO hX hT h (fun C1 h => ?_))
      dsimp only [Option.toList, List.cons_append, List.nil_append]
      refine x_lret dL_act_321 rfl ?_
      exact hq _ (RF_mono h (by omega))
  · by_cases h0 : z % 4 = 0
    · skip
      refine ⟨(lw jA 0 0 (aRun (S, n, ρ, L, K) ((nI 1) + ((nI z) - (nI z) / (nI 48) * (nI 48)))), (aRun (S, n, ρ, L, K) ((nI 1) + ((nI z) - (nI z) / (nI 48) * (nI 48)))).2.2), ?_⟩
      intro G C Q C0 sa va x T hN hO hX hT h hq
      refine x_iload_n dL_act_37 rfl ?_
      refine x_bipush (v := nI 24) dL_act_38 (by decide) ?_
      refine x_irem dL_act_40 (by decide) ?_
      rw [pk_rem hX9 (by decide) (by decide), hcx]
      refine x_tableOut (tgt := 300) dL_act_41 (by decide +kernel) (by decide) ?_
      refine x_aload_n dL_act_300 rfl ?_
      refine x_iconst (v := nI 1) dL_act_301 (by decide) ?_
      refine x_iload_n dL_act_302 rfl ?_
      refine x_iload_n dL_act_303 rfl ?_
      refine x_iconst (v := nI 4) dL_act_304 (by decide) ?_
      refine x_irem dL_act_305 (by decide) ?_
      rw [pk_rem (by omega) (by decide) (by decide)]
      refine x_if_neN (tgt := 314) dL_act_306 (by decide) (congrArg nI h0) ?_
      refine x_bipush (v := nI 48) dL_act_309 (by decide) ?_
      refine x_goto (tgt := 316) dL_act_311 (by decide) ?_
      refine x_irem dL_act_316 (by decide) ?_
      refine x_iadd dL_act_317 ?_
      refine x_cX (c9 := 1) (s9 := 6) (As := [_, _]) hO dL_act_318 o_L_run s_L_run l_L_133 ⟨by decide, by decide⟩ ⟨rfl, rfl⟩ ⟨by omega, by omega⟩ rfl rfl (Nat.le_of_ble_eq_true rfl) (l_run hN hO hX hT h (fun C1 h => ?_))
      dsimp only [Option.toList, List.cons_append, List.nil_append]
      refine x_lret dL_act_321 rfl ?_
      exact hq _ (RF_mono h (by omega))
    · skip
      refine ⟨(lw jA 0 0 (aRun (S, n, ρ, L, K) ((nI 1) + ((nI z) - (nI z) / (nI 6) * (nI 6)))), (aRun (S, n, ρ, L, K) ((nI 1) + ((nI z) - (nI z) / (nI 6) * (nI 6)))).2.2), ?_⟩
      intro G C Q C0 sa va x T hN hO hX hT h hq
      refine x_iload_n dL_act_37 rfl ?_
      refine x_bipush (v := nI 24) dL_act_38 (by decide) ?_
      refine x_irem dL_act_40 (by decide) ?_
      rw [pk_rem hX9 (by decide) (by decide), hcx]
      refine x_tableOut (tgt := 300) dL_act_41 (by decide +kernel) (by decide) ?_
      refine x_aload_n dL_act_300 rfl ?_
      refine x_iconst (v := nI 1) dL_act_301 (by decide) ?_
      refine x_iload_n dL_act_302 rfl ?_
      refine x_iload_n dL_act_303 rfl ?_
      refine x_iconst (v := nI 4) dL_act_304 (by decide) ?_
      refine x_irem dL_act_305 (by decide) ?_
      rw [pk_rem (by omega) (by decide) (by decide)]
      refine x_if_neT (tgt := 314) dL_act_306 (by decide) (nI_ne0 (by omega) (by omega)) ?_
      refine x_bipush (v := nI 6) dL_act_314 (by decide) ?_
      refine x_irem dL_act_316 (by decide) ?_
      refine x_iadd dL_act_317 ?_
      refine x_cX (c9 := 1) (s9 := 6) (As := [_, _]) hO dL_act_318 o_L_run s_L_run l_L_133 ⟨by decide, by decide⟩ ⟨rfl, rfl⟩ ⟨by omega, by omega⟩ rfl rfl (Nat.le_of_ble_eq_true rfl) (l_run hN hO hX hT h (fun C1 h => ?_))
      dsimp only [Option.toList, List.cons_append, List.nil_append]
      refine x_lret dL_act_321 rfl ?_
      exact hq _ (RF_mono h (by omega))
  · by_cases h0 : z % 4 = 0
    · skip
      refine ⟨(lw jA 0 0 (aRun (S, n, ρ, L, K) ((nI 1) + ((nI z) - (nI z) / (nI 48) * (nI 48)))), (aRun (S, n, ρ, L, K) ((nI 1) + ((nI z) - (nI z) / (nI 48) * (nI 48)))).2.2), ?_⟩
      intro G C Q C0 sa va x T hN hO hX hT h hq
      refine x_iload_n dL_act_37 rfl ?_
      refine x_bipush (v := nI 24) dL_act_38 (by decide) ?_
      refine x_irem dL_act_40 (by decide) ?_
      rw [pk_rem hX9 (by decide) (by decide), hcx]
      refine x_tableOut (tgt := 300) dL_act_41 (by decide +kernel) (by decide) ?_
      refine x_aload_n dL_act_300 rfl ?_
      refine x_iconst (v := nI 1) dL_act_301 (by decide) ?_
      refine x_iload_n dL_act_302 rfl ?_
      refine x_iload_n dL_act_303 rfl ?_
      refine x_iconst (v := nI 4) dL_act_304 (by decide) ?_
      refine x_irem dL_act_305 (by decide) ?_
      rw [pk_rem (by omega) (by decide) (by decide)]
      refine x_if_neN (tgt := 314) dL_act_306 (by decide) (congrArg nI h0) ?_
      refine x_bipush (v := nI 48) dL_act_309 (by decide) ?_
      refine x_goto (tgt := 316) dL_act_311 (by decide) ?_
      refine x_irem dL_act_316 (by decide) ?_
      refine x_iadd dL_act_317 ?_
      refine x_cX (c9 := 1) (s9 := 6) (As := [_, _]) hO dL_act_318 o_L_run s_L_run l_L_133 ⟨by decide, by decide⟩ ⟨rfl, rfl⟩ ⟨by omega, by omega⟩ rfl rfl (Nat.le_of_ble_eq_true rfl) (l_run hN hO hX hT h (fun C1 h => ?_))
      dsimp only [Option.toList, List.cons_append, List.nil_append]
      refine x_lret dL_act_321 rfl ?_
      exact hq _ (RF_mono h (by omega))
    · skip
      refine ⟨(lw jA 0 0 (aRun (S, n, ρ, L, K) ((nI 1) + ((nI z) - (nI z) / (nI 6) * (nI 6)))), (aRun (S, n, ρ, L, K) ((nI 1) + ((nI z) - (nI z) / (nI 6) * (nI 6)))).2.2), ?_⟩
      intro G C Q C0 sa va x T hN hO hX hT h hq
      refine x_iload_n dL_act_37 rfl ?_
      refine x_bipush (v := nI 24) dL_act_38 (by decide) ?_
      refine x_irem dL_act_40 (by decide) ?_
      rw [pk_rem hX9 (by decide) (by decide), hcx]
      refine x_tableOut (tgt := 300) dL_act_41 (by decide +kernel) (by decide) ?_
      refine x_aload_n dL_act_300 rfl ?_
      refine x_iconst (v := nI 1) dL_act_301 (by decide) ?_
      refine x_iload_n dL_act_302 rfl ?_
      refine x_iload_n dL_act_303 rfl ?_
      refine x_iconst (v := nI 4) dL_act_304 (by decide) ?_
      refine x_irem dL_act_305 (by decide) ?_
      rw [pk_rem (by omega) (by decide) (by decide)]
      refine x_if_neT (tgt := 314) dL_act_306 (by decide) (nI_ne0 (by omega) (by omega)) ?_
      refine x_bipush (v := nI 6) dL_act_314 (by decide) ?_
      refine x_irem dL_act_316 (by decide) ?_
      refine x_iadd dL_act_317 ?_
      refine x_cX (c9 := 1) (s9 := 6) (As := [_, _]) hO dL_act_318 o_L_run s_L_run l_L_133 ⟨by decide, by decide⟩ ⟨rfl, rfl⟩ ⟨by omega, by omega⟩ rfl rfl (Nat.le_of_ble_eq_true rfl) (l_run hN hO hX hT h (fun C1 h => ?_))
      dsimp only [Option.toList, List.cons_append, List.nil_append]
      refine x_lret dL_act_321 rfl ?_
      exact hq _ (RF_mono h (by omega))
  · by_cases h0 : z % 4 = 0
    · skip
      refine ⟨(lw jA 0 0 (aRun (S, n, ρ, L, K) ((nI 1) + ((nI z) - (nI z) / (nI 48) * (nI 48)))), (aRun (S, n, ρ, L, K) ((nI 1) + ((nI z) - (nI z) / (nI 48) * (nI 48)))).2.2), ?_⟩
      intro G C Q C0 sa va x T hN hO hX hT h hq
      refine x_iload_n dL_act_37 rfl ?_
      refine x_bipush (v := nI 24) dL_act_38 (by decide) ?_
      refine x_irem dL_act_40 (by decide) ?_
      rw [pk_rem hX9 (by decide) (by decide), hcx]
      refine x_tableOut (tgt := 300) dL_act_41 (by decide +kernel) (by decide) ?_
      refine x_aload_n dL_act_300 rfl ?_
      refine x_iconst (v := nI 1) dL_act_301 (by decide) ?_
      refine x_iload_n dL_act_302 rfl ?_
      refine x_iload_n dL_act_303 rfl ?_
      refine x_iconst (v := nI 4) dL_act_304 (by decide) ?_
      refine x_irem dL_act_305 (by decide) ?_
      rw [pk_rem (by omega) (by decide) (by decide)]
      refine x_if_neN (tgt := 314) dL_act_306 (by decide) (congrArg nI h0) ?_
      refine x_bipush (v := nI 48) dL_act_309 (by decide) ?_
      refine x_goto (tgt := 316) dL_act_311 (by decide) ?_
      refine x_irem dL_act_316 (by decide) ?_
      refine x_iadd dL_act_317 ?_
      refine x_cX (c9 := 1) (s9 := 6) (As := [_, _]) hO dL_act_318 o_L_run s_L_run l_L_133 ⟨by decide, by decide⟩ ⟨rfl, rfl⟩ ⟨by omega, by omega⟩ rfl rfl (Nat.le_of_ble_eq_true rfl) (l_run hN hO hX hT h (fun C1 h => ?_))
      dsimp only [Option.toList, List.cons_append, List.nil_append]
      refine x_lret dL_act_321 rfl ?_
      exact hq _ (RF_mono h (by omega))
    · skip
      refine ⟨(lw jA 0 0 (aRun (S, n, ρ, L, K) ((nI 1) + ((nI z) - (nI z) / (nI 6) * (nI 6)))), (aRun (S, n, ρ, L, K) ((nI 1) + ((nI z) - (nI z) / (nI 6) * (nI 6)))).2.2), ?_⟩
      intro G C Q C0 sa va x T hN hO hX hT h hq
      refine x_iload_n dL_act_37 rfl ?_
      refine x_bipush (v := nI 24) dL_act_38 (by decide) ?_
      refine x_irem dL_act_40 (by decide) ?_
      rw [pk_rem hX9 (by decide) (by decide), hcx]
      refine x_tableOut (tgt := 300) dL_act_41 (by decide +kernel) (by decide) ?_
      refine x_aload_n dL_act_300 rfl ?_
      refine x_iconst (v := nI 1) dL_act_301 (by decide) ?_
      refine x_iload_n dL_act_302 rfl ?_
      refine x_iload_n dL_act_303 rfl ?_
      refine x_iconst (v := nI 4) dL_act_304 (by decide) ?_
      refine x_irem dL_act_305 (by decide) ?_
      rw [pk_rem (by omega) (by decide) (by decide)]
      refine x_if_neT (tgt := 314) dL_act_306 (by decide) (nI_ne0 (by omega) (by omega)) ?_
      refine x_bipush (v := nI 6) dL_act_314 (by decide) ?_
      refine x_irem dL_act_316 (by decide) ?_
      refine x_iadd dL_act_317 ?_
      refine x_cX (c9 := 1) (s9 := 6) (As := [_, _]) hO dL_act_318 o_L_run s_L_run l_L_133 ⟨by decide, by decide⟩ ⟨rfl, rfl⟩ ⟨by omega, by omega⟩ rfl rfl (Nat.le_of_ble_eq_true rfl) (l_run hN hO hX hT h (fun C1 h => ?_))
      dsimp only [Option.toList, List.cons_append, List.nil_append]
      refine x_lret dL_act_321 rfl ?_
      exact hq _ (RF_mono h (by omega))
  · by_cases h0 : z % 4 = 0
    · skip
      refine ⟨(lw jA 0 0 (aRun (S, n, ρ, L, K) ((nI 1) + ((nI z) - (nI z) / (nI 48) * (nI 48)))), (aRun (S, n, ρ, L, K) ((nI 1) + ((nI z) - (nI z) / (nI 48) * (nI 48)))).2.2), ?_⟩
      intro G C Q C0 sa va x T hN hO hX hT h hq
      refine x_iload_n dL_act_37 rfl ?_
      refine x_bipush (v := nI 24) dL_act_38 (by decide) ?_
      refine x_irem dL_act_40 (by decide) ?_
      rw [pk_rem hX9 (by decide) (by decide), hcx]
      refine x_tableOut (tgt := 300) dL_act_41 (by decide +kernel) (by decide) ?_
      refine x_aload_n dL_act_300 rfl ?_
      refine x_iconst (v := nI 1) dL_act_301 (by decide) ?_
      refine x_iload_n dL_act_302 rfl ?_
      refine x_iload_n dL_act_303 rfl ?_
      refine x_iconst (v := nI 4) dL_act_304 (by decide) ?_
      refine x_irem dL_act_305 (by decide) ?_
      rw [pk_rem (by omega) (by decide) (by decide)]
      refine x_if_neN (tgt := 314) dL_act_306 (by decide) (congrArg nI h0) ?_
      refine x_bipush (v := nI 48) dL_act_309 (by decide) ?_
      refine x_goto (tgt := 316) dL_act_311 (by decide) ?_
      refine x_irem dL_act_316 (by decide) ?_
      refine x_iadd dL_act_317 ?_
      refine x_cX (c9 := 1) (s9 := 6) (As := [_, _]) hO dL_act_318 o_L_run s_L_run l_L_133 ⟨by decide, by decide⟩ ⟨rfl, rfl⟩ ⟨by omega, by omega⟩ rfl rfl (Nat.le_of_ble_eq_true rfl) (l_run hN hO hX hT h (fun C1 h => ?_))
      dsimp only [Option.toList, List.cons_append, List.nil_append]
      refine x_lret dL_act_321 rfl ?_
      exact hq _ (RF_mono h (by omega))
    · skip
      refine ⟨(lw jA 0 0 (aRun (S, n, ρ, L, K) ((nI 1) + ((nI z) - (nI z) / (nI 6) * (nI 6)))), (aRun (S, n, ρ, L, K) ((nI 1) + ((nI z) - (nI z) / (nI 6) * (nI 6)))).2.2), ?_⟩
      intro G C Q C0 sa va x T hN hO hX hT h hq
      refine x_iload_n dL_act_37 rfl ?_
      refine x_bipush (v := nI 24) dL_act_38 (by decide) ?_
      refine x_irem dL_act_40 (by decide) ?_
      rw [pk_rem hX9 (by decide) (by decide), hcx]
      refine x_tableOut (tgt := 300) dL_act_41 (by decide +kernel) (by decide) ?_
      refine x_aload_n dL_act_300 rfl ?_
      refine x_iconst (v := nI 1) dL_act_301 (by decide) ?_
      refine x_iload_n dL_act_302 rfl ?_
      refine x_iload_n dL_act_303 rfl ?_
      refine x_iconst (v := nI 4) dL_act_304 (by decide) ?_
      refine x_irem dL_act_305 (by decide) ?_
      rw [pk_rem (by omega) (by decide) (by decide)]
      refine x_if_neT (tgt := 314) dL_act_306 (by decide) (nI_ne0 (by omega) (by omega)) ?_
      refine x_bipush (v := nI 6) dL_act_314 (by decide) ?_
      refine x_irem dL_act_316 (by decide) ?_
      refine x_iadd dL_act_317 ?_
      refine x_cX (c9 := 1) (s9 := 6) (As := [_, _]) hO dL_act_318 o_L_run s_L_run l_L_133 ⟨by decide, by decide⟩ ⟨rfl, rfl⟩ ⟨by omega, by omega⟩ rfl rfl (Nat.le_of_ble_eq_true rfl) (l_run hN hO hX hT h (fun C1 h => ?_))
      dsimp only [Option.toList, List.cons_append, List.nil_append]
      refine x_lret dL_act_321 rfl ?_
      exact hq _ (RF_mono h (by omega))
  · by_cases h0 : z % 4 = 0
    · skip
      refine ⟨(lw jA 0 0 (aRun (S, n, ρ, L, K) ((nI 1) + ((nI z) - (nI z) / (nI 48) * (nI 48)))), (aRun (S, n, ρ, L, K) ((nI 1) + ((nI z) - (nI z) / (nI 48) * (nI 48)))).2.2), ?_⟩
      intro G C Q C0 sa va x T hN hO hX hT h hq
      refine x_iload_n dL_act_37 rfl ?_
      refine x_bipush (v := nI 24) dL_act_38 (by decide) ?_
      refine x_irem dL_act_40 (by decide) ?_
      rw [pk_rem hX9 (by decide) (by decide), hcx]
      refine x_tableOut (tgt := 300) dL_act_41 (by decide +kernel) (by decide) ?_
      refine x_aload_n dL_act_300 rfl ?_
      refine x_iconst (v := nI 1) dL_act_301 (by decide) ?_
      refine x_iload_n dL_act_302 rfl ?_
      refine x_iload_n dL_act_303 rfl ?_
      refine x_iconst (v := nI 4) dL_act_304 (by decide) ?_
      refine x_irem dL_act_305 (by decide) ?_
      rw [pk_rem (by omega) (by decide) (by decide)]
      refine x_if_neN (tgt := 314) dL_act_306 (by decide) (congrArg nI h0) ?_
      refine x_bipush (v := nI 48) dL_act_309 (by decide) ?_
      refine x_goto (tgt := 316) dL_act_311 (by decide) ?_
      refine x_irem dL_act_316 (by decide) ?_
      refine x_iadd dL_act_317 ?_
      refine x_cX (c9 := 1) (s9 := 6) (As := [_, _]) hO dL_act_318 o_L_run s_L_run l_L_133 ⟨by decide, by decide⟩ ⟨rfl, rfl⟩ ⟨by omega, by omega⟩ rfl rfl (Nat.le_of_ble_eq_true rfl) (l_run hN hO hX hT h (fun C1 h => ?_))
      dsimp only [Option.toList, List.cons_append, List.nil_append]
      refine x_lret dL_act_321 rfl ?_
      exact hq _ (RF_mono h (by omega))
    · skip
      refine ⟨(lw jA 0 0 (aRun (S, n, ρ, L, K) ((nI 1) + ((nI z) - (nI z) / (nI 6) * (nI 6)))), (aRun (S, n, ρ, L, K) ((nI 1) + ((nI z) - (nI z) / (nI 6) * (nI 6)))).2.2), ?_⟩
      intro G C Q C0 sa va x T hN hO hX hT h hq
      refine x_iload_n dL_act_37 rfl ?_
      refine x_bipush (v := nI 24) dL_act_38 (by decide) ?_
      refine x_irem dL_act_40 (by decide) ?_
      rw [pk_rem hX9 (by decide) (by decide), hcx]
      refine x_tableOut (tgt := 300) dL_act_41 (by decide +kernel) (by decide) ?_
      refine x_aload_n dL_act_300 rfl ?_
      refine x_iconst (v := nI 1) dL_act_301 (by decide) ?_
      refine x_iload_n dL_act_302 rfl ?_
      refine x_iload_n dL_act_303 rfl ?_
      refine x_iconst (v := nI 4) dL_act_304 (by decide) ?_
      refine x_irem dL_act_305 (by decide) ?_
      rw [pk_rem (by omega) (by decide) (by decide)]
      refine x_if_neT (tgt := 314) dL_act_306 (by decide) (nI_ne0 (by omega) (by omega)) ?_
      refine x_bipush (v := nI 6) dL_act_314 (by decide) ?_
      refine x_irem dL_act_316 (by decide) ?_
      refine x_iadd dL_act_317 ?_
      refine x_cX (c9 := 1) (s9 := 6) (As := [_, _]) hO dL_act_318 o_L_run s_L_run l_L_133 ⟨by decide, by decide⟩ ⟨rfl, rfl⟩ ⟨by omega, by omega⟩ rfl rfl (Nat.le_of_ble_eq_true rfl) (l_run hN hO hX hT h (fun C1 h => ?_))
      dsimp only [Option.toList, List.cons_append, List.nil_append]
      refine x_lret dL_act_321 rfl ?_
      exact hq _ (RF_mono h (by omega))
  · by_cases h0 : z % 4 = 0
    · skip
      refine ⟨(lw jA 0 0 (aRun (S, n, ρ, L, K) ((nI 1) + ((nI z) - (nI z) / (nI 48) * (nI 48)))), (aRun (S, n, ρ, L, K) ((nI 1) + ((nI z) - (nI z) / (nI 48) * (nI 48)))).2.2), ?_⟩
      intro G C Q C0 sa va x T hN hO hX hT h hq
      refine x_iload_n dL_act_37 rfl ?_
      refine x_bipush (v := nI 24) dL_act_38 (by decide) ?_
      refine x_irem dL_act_40 (by decide) ?_
      rw [pk_rem hX9 (by decide) (by decide), hcx]
      refine x_tableOut (tgt := 300) dL_act_41 (by decide +kernel) (by decide) ?_
      refine x_aload_n dL_act_300 rfl ?_
      refine x_iconst (v := nI 1) dL_act_301 (by decide) ?_
      refine x_iload_n dL_act_302 rfl ?_
      refine x_iload_n dL_act_303 rfl ?_
      refine x_iconst (v := nI 4) dL_act_304 (by decide) ?_
      refine x_irem dL_act_305 (by decide) ?_
      rw [pk_rem (by omega) (by decide) (by decide)]
      refine x_if_neN (tgt := 314) dL_act_306 (by decide) (congrArg nI h0) ?_
      refine x_bipush (v := nI 48) dL_act_309 (by decide) ?_
      refine x_goto (tgt := 316) dL_act_311 (by decide) ?_
      refine x_irem dL_act_316 (by decide) ?_
      refine x_iadd dL_act_317 ?_
      refine x_cX (c9 := 1) (s9 := 6) (As := [_, _]) hO dL_act_318 o_L_run s_L_run l_L_133 ⟨by decide, by decide⟩ ⟨rfl, rfl⟩ ⟨by omega, by omega⟩ rfl rfl (Nat.le_of_ble_eq_true rfl) (l_run hN hO hX hT h (fun C1 h => ?_))
      dsimp only [Option.toList, List.cons_append, List.nil_append]
      refine x_lret dL_act_321 rfl ?_
      exact hq _ (RF_mono h (by omega))
    · skip
      refine ⟨(lw jA 0 0 (aRun (S, n, ρ, L, K) ((nI 1) + ((nI z) - (nI z) / (nI 6) * (nI 6)))), (aRun (S, n, ρ, L, K) ((nI 1) + ((nI z) - (nI z) / (nI 6) * (nI 6)))).2.2), ?_⟩
      intro G C Q C0 sa va x T hN hO hX hT h hq
      refine x_iload_n dL_act_37 rfl ?_
      refine x_bipush (v := nI 24) dL_act_38 (by decide) ?_
      refine x_irem dL_act_40 (by decide) ?_
      rw [pk_rem hX9 (by decide) (by decide), hcx]
      refine x_tableOut (tgt := 300) dL_act_41 (by decide +kernel) (by decide) ?_
      refine x_aload_n dL_act_300 rfl ?_
      refine x_iconst (v := nI 1) dL_act_301 (by decide) ?_
      refine x_iload_n dL_act_302 rfl ?_
      refine x_iload_n dL_act_303 rfl ?_
      refine x_iconst (v := nI 4) dL_act_304 (by decide) ?_
      refine x_irem dL_act_305 (by decide) ?_
      rw [pk_rem (by omega) (by decide) (by decide)]
      refine x_if_neT (tgt := 314) dL_act_306 (by decide) (nI_ne0 (by omega) (by omega)) ?_
      refine x_bipush (v := nI 6) dL_act_314 (by decide) ?_
      refine x_irem dL_act_316 (by decide) ?_
      refine x_iadd dL_act_317 ?_
      refine x_cX (c9 := 1) (s9 := 6) (As := [_, _]) hO dL_act_318 o_L_run s_L_run l_L_133 ⟨by decide, by decide⟩ ⟨rfl, rfl⟩ ⟨by omega, by omega⟩ rfl rfl (Nat.le_of_ble_eq_true rfl) (l_run hN hO hX hT h (fun C1 h => ?_))
      dsimp only [Option.toList, List.cons_append, List.nil_append]
      refine x_lret dL_act_321 rfl ?_
      exact hq _ (RF_mono h (by omega))
  · by_cases h0 : z % 4 = 0
    · skip
      refine ⟨(lw jA 0 0 (aRun (S, n, ρ, L, K) ((nI 1) + ((nI z) - (nI z) / (nI 48) * (nI 48)))), (aRun (S, n, ρ, L, K) ((nI 1) + ((nI z) - (nI z) / (nI 48) * (nI 48)))).2.2), ?_⟩
      intro G C Q C0 sa va x T hN hO hX hT h hq
      refine x_iload_n dL_act_37 rfl ?_
      refine x_bipush (v := nI 24) dL_act_38 (by decide) ?_
      refine x_irem dL_act_40 (by decide) ?_
      rw [pk_rem hX9 (by decide) (by decide), hcx]
      refine x_tableOut (tgt := 300) dL_act_41 (by decide +kernel) (by decide) ?_
      refine x_aload_n dL_act_300 rfl ?_
      refine x_iconst (v := nI 1) dL_act_301 (by decide) ?_
      refine x_iload_n dL_act_302 rfl ?_
      refine x_iload_n dL_act_303 rfl ?_
      refine x_iconst (v := nI 4) dL_act_304 (by decide) ?_
      refine x_irem dL_act_305 (by decide) ?_
      rw [pk_rem (by omega) (by decide) (by decide)]
      refine x_if_neN (tgt := 314) dL_act_306 (by decide) (congrArg nI h0) ?_
      refine x_bipush (v := nI 48) dL_act_309 (by decide) ?_
      refine x_goto (tgt := 316) dL_act_311 (by decide) ?_
      refine x_irem dL_act_316 (by decide) ?_
      refine x_iadd dL_act_317 ?_
      refine x_cX (c9 := 1) (s9 := 6) (As := [_, _]) hO dL_act_318 o_L_run s_L_run l_L_133 ⟨by decide, by decide⟩ ⟨rfl, rfl⟩ ⟨by omega, by omega⟩ rfl rfl (Nat.le_of_ble_eq_true rfl) (l_run hN hO hX hT h (fun C1 h => ?_))
      dsimp only [Option.toList, List.cons_append, List.nil_append]
      refine x_lret dL_act_321 rfl ?_
      exact hq _ (RF_mono h (by omega))
    · skip
      refine ⟨(lw jA 0 0 (aRun (S, n, ρ, L, K) ((nI 1) + ((nI z) - (nI z) / (nI 6) * (nI 6)))), (aRun (S, n, ρ, L, K) ((nI 1) + ((nI z) - (nI z) / (nI 6) * (nI 6)))).2.2), ?_⟩
      intro G C Q C0 sa va x T hN hO hX hT h hq
      refine x_iload_n dL_act_37 rfl ?_
      refine x_bipush (v := nI 24) dL_act_38 (by decide) ?_
      refine x_irem dL_act_40 (by decide) ?_
      rw [pk_rem hX9 (by decide) (by decide), hcx]
      refine x_tableOut (tgt := 300) dL_act_41 (by decide +kernel) (by decide) ?_
      refine x_aload_n dL_act_300 rfl ?_
      refine x_iconst (v := nI 1) dL_act_301 (by decide) ?_
      refine x_iload_n dL_act_302 rfl ?_
      refine x_iload_n dL_act_303 rfl ?_
      refine x_iconst (v := nI 4) dL_act_304 (by decide) ?_
      refine x_irem dL_act_305 (by decide) ?_
      rw [pk_rem (by omega) (by decide) (by decide)]
      refine x_if_neT (tgt := 314) dL_act_306 (by decide) (nI_ne0 (by omega) (by omega)) ?_
      refine x_bipush (v := nI 6) dL_act_314 (by decide) ?_
      refine x_irem dL_act_316 (by decide) ?_
      refine x_iadd dL_act_317 ?_
      refine x_cX (c9 := 1) (s9 := 6) (As := [_, _]) hO dL_act_318 o_L_run s_L_run l_L_133 ⟨by decide, by decide⟩ ⟨rfl, rfl⟩ ⟨by omega, by omega⟩ rfl rfl (Nat.le_of_ble_eq_true rfl) (l_run hN hO hX hT h (fun C1 h => ?_))
      dsimp only [Option.toList, List.cons_append, List.nil_append]
      refine x_lret dL_act_321 rfl ?_
      exact hq _ (RF_mono h (by omega))
  · by_cases h0 : z % 4 = 0
    · skip
      refine ⟨(lw jA 0 0 (aRun (S, n, ρ, L, K) ((nI 1) + ((nI z) - (nI z) / (nI 48) * (nI 48)))), (aRun (S, n, ρ, L, K) ((nI 1) + ((nI z) - (nI z) / (nI 48) * (nI 48)))).2.2), ?_⟩
      intro G C Q C0 sa va x T hN hO hX hT h hq
      refine x_iload_n dL_act_37 rfl ?_
      refine x_bipush (v := nI 24) dL_act_38 (by decide) ?_
      refine x_irem dL_act_40 (by decide) ?_
      rw [pk_rem hX9 (by decide) (by decide), hcx]
      refine x_tableOut (tgt := 300) dL_act_41 (by decide +kernel) (by decide) ?_
      refine x_aload_n dL_act_300 rfl ?_
      refine x_iconst (v := nI 1) dL_act_301 (by decide) ?_
      refine x_iload_n dL_act_302 rfl ?_
      refine x_iload_n dL_act_303 rfl ?_
      refine x_iconst (v := nI 4) dL_act_304 (by decide) ?_
      refine x_irem dL_act_305 (by decide) ?_
      rw [pk_rem (by omega) (by decide) (by decide)]
      refine x_if_neN (tgt := 314) dL_act_306 (by decide) (congrArg nI h0) ?_
      refine x_bipush (v := nI 48) dL_act_309 (by decide) ?_
      refine x_goto (tgt := 316) dL_act_311 (by decide) ?_
      refine x_irem dL_act_316 (by decide) ?_
      refine x_iadd dL_act_317 ?_
      refine x_cX (c9 := 1) (s9 := 6) (As := [_, _]) hO dL_act_318 o_L_run s_L_run l_L_133 ⟨by decide, by decide⟩ ⟨rfl, rfl⟩ ⟨by omega, by omega⟩ rfl rfl (Nat.le_of_ble_eq_true rfl) (l_run hN hO hX hT h (fun C1 h => ?_))
      dsimp only [Option.toList, List.cons_append, List.nil_append]
      refine x_lret dL_act_321 rfl ?_
      exact hq _ (RF_mono h (by omega))
    · skip
      refine ⟨(lw jA 0 0 (aRun (S, n, ρ, L, K) ((nI 1) + ((nI z) - (nI z) / (nI 6) * (nI 6)))), (aRun (S, n, ρ, L, K) ((nI 1) + ((nI z) - (nI z) / (nI 6) * (nI 6)))).2.2), ?_⟩
      intro G C Q C0 sa va x T hN hO hX hT h hq
      refine x_iload_n dL_act_37 rfl ?_
      refine x_bipush (v := nI 24) dL_act_38 (by decide) ?_
      refine x_irem dL_act_40 (by decide) ?_
      rw [pk_rem hX9 (by decide) (by decide), hcx]
      refine x_tableOut (tgt := 300) dL_act_41 (by decide +kernel) (by decide) ?_
      refine x_aload_n dL_act_300 rfl ?_
      refine x_iconst (v := nI 1) dL_act_301 (by decide) ?_
      refine x_iload_n dL_act_302 rfl ?_
      refine x_iload_n dL_act_303 rfl ?_
      refine x_iconst (v := nI 4) dL_act_304 (by decide) ?_
      refine x_irem dL_act_305 (by decide) ?_
      rw [pk_rem (by omega) (by decide) (by decide)]
      refine x_if_neT (tgt := 314) dL_act_306 (by decide) (nI_ne0 (by omega) (by omega)) ?_
      refine x_bipush (v := nI 6) dL_act_314 (by decide) ?_
      refine x_irem dL_act_316 (by decide) ?_
      refine x_iadd dL_act_317 ?_
      refine x_cX (c9 := 1) (s9 := 6) (As := [_, _]) hO dL_act_318 o_L_run s_L_run l_L_133 ⟨by decide, by decide⟩ ⟨rfl, rfl⟩ ⟨by omega, by omega⟩ rfl rfl (Nat.le_of_ble_eq_true rfl) (l_run hN hO hX hT h (fun C1 h => ?_))
      dsimp only [Option.toList, List.cons_append, List.nil_append]
      refine x_lret dL_act_321 rfl ?_
      exact hq _ (RF_mono h (by omega))

def bA (ρ : Rw) (z : Nat) : Int32 := if ρ 1 = 0 then nI (z % 8) else if z % 13 = 0 then nI (z % 8) else nI (z % ρ 1)
theorem m_act {n X Y : Nat} {S : Nat → Nat} {ρ : Rw} {L : List Rw} {K : Nat → Option Rw} (hX9 : X < 2 ^ 31) (hY9 : Y < 2 ^ 31) : ∃ r : Int64 × St, ∀ {G : GT} {C : AH} {Q : QT} {C0 : AH} {sa va : Nat → Nat} {x T : Nat}, GN G → GO G → GX G sa va → T ≤ 40000 → RF T C0 C x (S, n, ρ, L, K) → (∀ C' : AH, RF (T + 48) C0 C' x r.2 → Q (some (.long r.1)) C') → Mt G M_L_act [.ref x, .int (nI X), .int (nI Y)] C Q NX := by
  obtain ⟨r, hr⟩ := act_2 (n := n) (S := S) (ρ := ρ) (L := L) (K := K) (X := X) (z := Y / 4) (bA ρ (Y / 4)) hX9 (by omega)
  refine ⟨r, ?_⟩
  intro G C Q C0 sa va x T hN hO hX hT h hq
  refine Mt_of (by decide) (Nat.le_of_ble_eq_true rfl) ?_
  have hk : Ok T ρ := h.1.1.1
  obtain ⟨hW, hB⟩ := id hk
  obtain ⟨w1, w2, w7, w8, w9, w10, w11, w11', w12, wB, wP⟩ := id hW
  refine x_room (k := 17) (n := 102) (by decide) (by decide) ?_
  by_cases h1 : ρ 1 = 0
  · have hb9 : bA ρ (Y / 4) = nI (Y / 4 % 8) := if_pos h1
    refine x_iload_n dL_act_0 rfl ?_
    refine x_iconst (v := nI 4) dL_act_1 (by decide) ?_
    refine x_idiv dL_act_2 (by decide) ?_
    rw [pk_div (by omega) (by decide) (by decide)]
    refine x_istore_n dL_act_3 (by decide) ?_
    refine x_aload_n dL_act_4 rfl ?_
    refine x_iconst (v := nI 0) dL_act_5 (by decide) ?_
    refine x_cX (c9 := 1) (s9 := 6) (As := [_, _]) hO dL_act_6 o_L_about s_L_about l_L_103 ⟨by decide, by decide⟩ ⟨rfl, rfl⟩ ⟨by omega, by omega⟩ rfl rfl (Nat.le_of_ble_eq_true rfl) (q_aboN hN hO hX hT (by decide) (z := ρ 1) rfl h (fun C1 h => ?_))
    dsimp only [Option.toList, List.cons_append, List.nil_append]
    refine x_l2i dL_act_9 ?_
    rw [lN_i]
    refine x_istore dL_act_10 (by decide) ?_
    refine x_iload dL_act_12 rfl ?_
    refine x_if_eqT (tgt := 24) dL_act_14 (by decide) (congrArg nI h1) ?_
    refine x_iload_n dL_act_24 rfl ?_
    refine x_bipush (v := nI 8) dL_act_25 (by decide) ?_
    refine x_irem dL_act_27 (by decide) ?_
    rw [pk_rem (by omega) (by decide) (by decide)]
    refine x_goto (tgt := 35) dL_act_28 (by decide) ?_
    refine x_istore dL_act_35 (by decide) ?_
    refine x_ls [(0, .ref x), (1, .int (nI X)), (3, .int (nI (Y / 4))), (5, .int (bA ρ (Y / 4)))] ⟨rfl, rfl, rfl, (by rw [hb9]; rfl), trivial⟩ ?_
    refine x_room (k := 16) (n := 96) (by omega) (by omega) ?_
    exact hr hN hO hX hT h hq
  by_cases h2 : Y / 4 % 13 = 0
  · have hb9 : bA ρ (Y / 4) = nI (Y / 4 % 8) := (if_neg h1).trans (if_pos h2)
    refine x_iload_n dL_act_0 rfl ?_
    refine x_iconst (v := nI 4) dL_act_1 (by decide) ?_
    refine x_idiv dL_act_2 (by decide) ?_
    rw [pk_div (by omega) (by decide) (by decide)]
    refine x_istore_n dL_act_3 (by decide) ?_
    refine x_aload_n dL_act_4 rfl ?_
    refine x_iconst (v := nI 0) dL_act_5 (by decide) ?_
    refine x_cX (c9 := 1) (s9 := 6) (As := [_, _]) hO dL_act_6 o_L_about s_L_about l_L_103 ⟨by decide, by decide⟩ ⟨rfl, rfl⟩ ⟨by omega, by omega⟩ rfl rfl (Nat.le_of_ble_eq_true rfl) (q_aboN hN hO hX hT (by decide) (z := ρ 1) rfl h (fun C1 h => ?_))
    dsimp only [Option.toList, List.cons_append, List.nil_append]
    refine x_l2i dL_act_9 ?_
    rw [lN_i]
    refine x_istore dL_act_10 (by decide) ?_
    refine x_iload dL_act_12 rfl ?_
    refine x_if_eqN (tgt := 24) dL_act_14 (by decide) (nI_ne0 (by omega) (by omega)) ?_
    refine x_iload_n dL_act_17 rfl ?_
    refine x_bipush (v := nI 13) dL_act_18 (by decide) ?_
    refine x_irem dL_act_20 (by decide) ?_
    rw [pk_rem (by omega) (by decide) (by decide)]
    refine x_if_neN (tgt := 31) dL_act_21 (by decide) (congrArg nI h2) ?_
    refine x_iload_n dL_act_24 rfl ?_
    refine x_bipush (v := nI 8) dL_act_25 (by decide) ?_
    refine x_irem dL_act_27 (by decide) ?_
    rw [pk_rem (by omega) (by decide) (by decide)]
    refine x_goto (tgt := 35) dL_act_28 (by decide) ?_
    refine x_istore dL_act_35 (by decide) ?_
    refine x_ls [(0, .ref x), (1, .int (nI X)), (3, .int (nI (Y / 4))), (5, .int (bA ρ (Y / 4)))] ⟨rfl, rfl, rfl, (by rw [hb9]; rfl), trivial⟩ ?_
    refine x_room (k := 16) (n := 96) (by omega) (by omega) ?_
    exact hr hN hO hX hT h hq
  · have hb9 : bA ρ (Y / 4) = nI (Y / 4 % ρ 1) := (if_neg h1).trans (if_neg h2)
    refine x_iload_n dL_act_0 rfl ?_
    refine x_iconst (v := nI 4) dL_act_1 (by decide) ?_
    refine x_idiv dL_act_2 (by decide) ?_
    rw [pk_div (by omega) (by decide) (by decide)]
    refine x_istore_n dL_act_3 (by decide) ?_
    refine x_aload_n dL_act_4 rfl ?_
    refine x_iconst (v := nI 0) dL_act_5 (by decide) ?_
    refine x_cX (c9 := 1) (s9 := 6) (As := [_, _]) hO dL_act_6 o_L_about s_L_about l_L_103 ⟨by decide, by decide⟩ ⟨rfl, rfl⟩ ⟨by omega, by omega⟩ rfl rfl (Nat.le_of_ble_eq_true rfl) (q_aboN hN hO hX hT (by decide) (z := ρ 1) rfl h (fun C1 h => ?_))
    dsimp only [Option.toList, List.cons_append, List.nil_append]
    refine x_l2i dL_act_9 ?_
    rw [lN_i]
    refine x_istore dL_act_10 (by decide) ?_
    refine x_iload dL_act_12 rfl ?_
    refine x_if_eqN (tgt := 24) dL_act_14 (by decide) (nI_ne0 (by omega) (by omega)) ?_
    refine x_iload_n dL_act_17 rfl ?_
    refine x_bipush (v := nI 13) dL_act_18 (by decide) ?_
    refine x_irem dL_act_20 (by decide) ?_
    rw [pk_rem (by omega) (by decide) (by decide)]
    refine x_if_neT (tgt := 31) dL_act_21 (by decide) (nI_ne0 (by omega) (by omega)) ?_
    refine x_iload_n dL_act_31 rfl ?_
    refine x_iload dL_act_32 rfl ?_
    refine x_irem dL_act_34 (nI_ne0 (by omega) (by omega)) ?_
    rw [pk_rem (by omega) (by omega) (by omega)]
    refine x_istore dL_act_35 (by decide) ?_
    refine x_ls [(0, .ref x), (1, .int (nI X)), (3, .int (nI (Y / 4))), (5, .int (bA ρ (Y / 4)))] ⟨rfl, rfl, rfl, (by rw [hb9]; rfl), trivial⟩ ?_
    refine x_room (k := 16) (n := 96) (by omega) (by omega) ?_
    exact hr hN hO hX hT h hq

