/-! calls on what is now *)-/
theorem Fr_trans {A B C : AH} {x w : Nat} (h : Fr A B x w) (h2 : Fr B C x w) : Fr A C x w := ⟨Nat.le_trans h.1 h2.1, fun a ha hb => by
  obtain ⟨a1, a2, a3, a4, a5⟩ := h.2 a ha hb
  obtain ⟨b1, b2, b3, b4, b5⟩ := h2.2 a (Nat.lt_of_lt_of_le ha h.1) hb
  exact ⟨b1.trans a1, b2.trans a2, fun j => (b3 j).trans (a3 j), fun j => (b4 j).trans (a4 j), fun j => (b5 j).trans (a5 j)⟩⟩
section RXL
variable {T U n x : Nat} {C : AH} {S : Nat → Nat} {ρ σ : Rw} {L : List Rw} {K : Nat → Option Rw} {f : Nat → Nat → Int32}
theorem RX_tr {s : St} (h : RX T C x s) (hf : ∀ a, (a < x + 203 ∨ x + 229 ≤ a) → f a = gI C a) : RX T (wI C f) x s := by
  obtain ⟨hk, π, hs, vT, vN, vH, vS⟩ := h
  refine ⟨hk, π, hs, TxV_in vT (congrFun (hf _ (by omega)) 1) (hf _ (by omega)), VaD_in hk.1.1 vN fun a h1 h2 => hf a (by omega), HiV_in hs.2.2.2.2.1 vH fun a h1 h2 => hf a (by omega), SlV_in vS (hf _ (by omega)) fun a h1 h2 => hf a (by omega)⟩
theorem RX_now (h : RX T C x (S, n, ρ, L, K)) (hf : ∀ a, (a < x + 4 ∨ x + 17 ≤ a) → f a = gI C a) (hV : VaD f (x + 4) σ) (hU : T ≤ U) (hσ : Ok U σ) : RX U (wI C f) x (S, n, σ, L, K) := by
  obtain ⟨hk, π, hs, vT, vN, vH, vS⟩ := h
  refine ⟨⟨hσ, fun τ q => Ok_mono (hk.2.1 τ q) hU, fun i τ q => Ok_mono (hk.2.2.1 i τ q) hU, hk.2.2.2⟩, π, hs, TxV_in vT (congrFun (hf _ (by omega)) 1) (hf _ (by omega)), hV, HiV_in hs.2.2.2.2.1 vH fun a h1 h2 => hf a (by omega), SlV_in vS (hf _ (by omega)) fun a h1 h2 => hf a (by omega)⟩
theorem Fr_in {lo hi : Nat} (hf : ∀ a, (a < x + lo ∨ x + hi ≤ a) → f a = gI C a) (h : hi ≤ 255) : Fr C (wI C f) x 255 := Fr_wI fun a ha => hf a (by omega)
theorem rem_len : (rem14 L ρ).length ≤ 14 ∨ 14 < L.length := by
  unfold rem14
  split
  · left; rw [List.length_append]; show L.length + 1 ≤ 14; omega
  · rw [List.length_append, List.length_tail]
    show L.length - 1 + 1 ≤ 14 ∨ _
    omega
theorem rem_in {τ : Rw} (h : τ ∈ rem14 L ρ) : τ ∈ L ∨ τ = ρ := by
  unfold rem14 at h
  split at h
  · rcases List.mem_append.mp h with h | h
    · exact Or.inl h
    · exact Or.inr (List.mem_singleton.mp h)
  · rcases List.mem_append.mp h with h | h
    · exact Or.inl (List.mem_of_mem_tail h)
    · exact Or.inr (List.mem_singleton.mp h)
end RXL

theorem t_remember {G : GT} {C : AH} {Q : QT} {X : XT} {sa va : Nat → Nat} {x T n : Nat} {S : Nat → Nat} {ρ : Rw} {L : List Rw} {K : Nat → Option Rw} (hO : GO G) (hX : GX G sa va) (hT : T ≤ 40000) (hR : RX T C x (S, n, ρ, L, K)) (hq : ∀ C' : AH, RX T C' x (S, n, ρ, rem14 L ρ, K) → Fr C C' x 255 → Q none C') : Mt G M_X2_remember [.ref (x + 17), .ref (x + 4)] C Q X := by
  obtain ⟨hk, π, hs, hv⟩ := id hR
  obtain ⟨hK, ⟨g0, g1, g2, g3, g4, g5, g6⟩, hTx, hNow, hHi, ⟨ks, ns, es⟩, ⟨kf, nf⟩, hTr, hPr, hSl, hgz⟩ := id hs
  have kTx := hTx.1
  have kNow := hNow.1
  have kHi := hHi.1
  have kTr := hTr.1
  have kPr := hPr.1
  obtain ⟨vT, vN, vH, vS⟩ : TxV (gI C) (x + 1) S n ∧ VaD (gI C) (x + 4) ρ ∧ HiV (gI C) (x + 17) π L ∧ SlV (gI C) x K := hv
  obtain ⟨ok1, ok2, ok3, ok4, ok5, ok6⟩ : Ok T ρ ∧ (∀ σ, σ ∈ L → Ok T σ) ∧ (∀ i σ, K i = some σ → Ok T σ) ∧ n ≤ 120 ∧ (∀ i, i < n → S i < 256) ∧ L.length ≤ 14 := hk
  obtain ⟨hW, hB⟩ := id ok1
  obtain ⟨b0, b3, b4, b5, b6, b7⟩ := id hB
  obtain ⟨w1, w2, w7, w8, w9, w10, w11, w11', w12, wB, wP⟩ := id hW
  obtain ⟨s0, s1, s2, s3, v4, v5, v6, v7, v8, v9, v10⟩ := SkD_f hNow vN
  refine s_remember hO hHi vH hNow vN hW (by omega) fun R f σ h1 h2 h3 h4 => hq _ ⟨⟨ok1, fun τ q => (rem_in q).elim (ok2 τ) (fun e => e ▸ ok1), ok3, ok4, ok5, rem_len.resolve_right (by omega)⟩, σ, ⟨hK, ⟨?_, ?_, ?_, ?_, ?_, ?_, ?_⟩, ⟨hTx.1, ?_, ?_, hTx.2.2.2⟩, SkD_R hNow rfl rfl fun a p q => h1 a (by omega), h3, ⟨ks, ns, fun i hi => ?_⟩, ⟨kf, nf⟩, SkD_R hTr rfl rfl fun a p q => h1 a (by omega), SkD_R hPr rfl rfl fun a p q => h1 a (by omega), fun i hi => SkD_R (hSl i hi) rfl rfl fun a p q => h1 a (by omega), hgz⟩, TxV_in vT (congrFun (h2 _ (by omega)) 1) (h2 _ (by omega)), VaD_in hW vN fun a p q => h2 a (by omega), h4, SlV_in vS (h2 _ (by omega)) fun a p q => h2 a (by omega)⟩ ⟨Nat.le_refl _, fun a ha hb => ⟨rfl, rfl, fun j => congrFun (h2 a (by omega)) j, fun j => congrFun (h1 a (by omega)) j, fun _ => rfl⟩⟩
  · exact (congrFun (h1 x (by omega)) 0).trans g0
  · exact (congrFun (h1 x (by omega)) 1).trans g1
  · exact (congrFun (h1 x (by omega)) 2).trans g2
  · exact (congrFun (h1 x (by omega)) 3).trans g3
  · exact (congrFun (h1 x (by omega)) 4).trans g4
  · exact (congrFun (h1 x (by omega)) 5).trans g5
  · exact (congrFun (h1 x (by omega)) 6).trans g6
  · exact (congrFun (h1 (x + 1) (by omega)) 0).trans hTx.2.1
  · exact (congrFun (h1 (x + 1) (by omega)) 4).trans hTx.2.2.1
  · exact (congrFun (h1 (x + 201) (by omega)) i).trans (es i hi)

def abV (ρ : Rw) (k : Nat) : Int32 := match k with
  | 0 => nI (ρ 1)
  | 1 => nI (ρ 2)
  | 2 => nI (ρ 0)
  | 3 => nI (ρ 3)
  | 4 => nI (ρ 4)
  | 5 => nI (ρ 5)
  | 6 => nI (ρ 6)
  | 7 => nI (sm (fun b => ρ (bi b 6)) (ρ 1))
  | 8 => nI (sm (fun b => if ρ (bi b 6) = 0 ∧ ρ (bi b 1) < ρ (bi b 2) then 1 else 0) (ρ 1))
  | 9 => if nite ρ then 1 else 0
  | _ => nI (sm (fun b => ρ (bi b 1)) (ρ 1))
def aAbout (s : St) (w : Int32) : An := if nI 0 ≤ w ∧ w ≤ nI 10 then (0, abV s.2.2.1 w.toNatClampNeg, s) else (1, 0, s)
def aSetting (s : St) (w : Int32) : An := if nI 0 ≤ w ∧ w ≤ nI 5 then (0, nI (s.2.2.1 (7 + w.toNatClampNeg)), s) else (1, 0, s)
theorem t_about {G : GT} {C : AH} {Q : QT} {X : XT} {sa va : Nat → Nat} {x T n : Nat} {S : Nat → Nat} {ρ : Rw} {L : List Rw} {K : Nat → Option Rw} {w : Int32} (hO : GO G) (hX : GX G sa va) (hT : T ≤ 40000) (hR : RX T C x (S, n, ρ, L, K)) (hq : (aAbout (S, n, ρ, L, K) w).1 = 0 → ∀ C' : AH, RX (T) C' x (aAbout (S, n, ρ, L, K) w).2.2 → Fr C C' x 255 → Q (some (.int (aAbout (S, n, ρ, L, K) w).2.1)) C') (hx1 : (aAbout (S, n, ρ, L, K) w).1 = 1 → ∀ C' : AH, RX (T) C' x (aAbout (S, n, ρ, L, K) w).2.2 → Fr C C' x 255 → X "java/lang/IllegalArgumentException" C') : Mt G M_X4_about [.ref x, .int w] C Q X := by
  refine Mt_of (by decide) (Nat.le_of_ble_eq_true rfl) ?_
  obtain ⟨hk, π, hs, hv⟩ := id hR
  obtain ⟨hK, ⟨g0, g1, g2, g3, g4, g5, g6⟩, hTx, hNow, hHi, ⟨ks, ns, es⟩, ⟨kf, nf⟩, hTr, hPr, hSl, hgz⟩ := id hs
  have kTx := hTx.1
  have kNow := hNow.1
  have kHi := hHi.1
  have kTr := hTr.1
  have kPr := hPr.1
  obtain ⟨vT, vN, vH, vS⟩ : TxV (gI C) (x + 1) S n ∧ VaD (gI C) (x + 4) ρ ∧ HiV (gI C) (x + 17) π L ∧ SlV (gI C) x K := hv
  obtain ⟨ok1, ok2, ok3, ok4, ok5, ok6⟩ : Ok T ρ ∧ (∀ σ, σ ∈ L → Ok T σ) ∧ (∀ i σ, K i = some σ → Ok T σ) ∧ n ≤ 120 ∧ (∀ i, i < n → S i < 256) ∧ L.length ≤ 14 := hk
  obtain ⟨hW, hB⟩ := id ok1
  obtain ⟨b0, b3, b4, b5, b6, b7⟩ := id hB
  obtain ⟨w1, w2, w7, w8, w9, w10, w11, w11', w12, wB, wP⟩ := id hW
  obtain ⟨s0, s1, s2, s3, v4, v5, v6, v7, v8, v9, v10⟩ := SkD_f hNow vN
  refine x_iload_n dX4_about_0 rfl ?_
  refine x_iconst (v := nI 0) dX4_about_1 (by decide) ?_
  refine x_bipush (v := nI 10) dX4_about_2 (by decide) ?_
  refine x_callS (As := [_, _, _]) hO dX4_about_4 o_X4_requireWithin s_X4_requireWithin l_X4_44 ⟨by decide, by decide⟩ ⟨by decide, by decide⟩ rfl rfl (Nat.le_of_ble_eq_true rfl) (s_requireWithin hO hX (fun h5 => ?_) (fun h5 => ?_))
  · dsimp only [Option.toList, List.cons_append, List.nil_append]
    obtain ⟨k, hk0, hk9, rfl⟩ := (rng (by decide) (by decide)).mp h5
    have eA : aAbout (S, n, ρ, L, K) (nI k) = (0, abV ρ k, (S, n, ρ, L, K)) := by
      unfold aAbout
      rw [if_pos h5, nI_clamp (by omega)]
    rw [eA] at hq
    refine x_iload_n dX4_about_7 rfl ?_
    rcases (show k = 0 ∨ k = 1 ∨ k = 2 ∨ k = 3 ∨ k = 4 ∨ k = 5 ∨ k = 6 ∨ k = 7 ∨ k = 8 ∨ k = 9 ∨ k = 10 by omega) with rfl | rfl | rfl | rfl | rfl | rfl | rfl | rfl | rfl | rfl | rfl
    · have hq := hq rfl C hR Fr_refl
      refine x_tableIn (off := 56) (tgt := 64) dX4_about_8 (by decide +kernel) (by decide +kernel) (by decide +kernel) (by decide) ?_
      refine x_aload_n dX4_about_64 rfl ?_
      refine x_get 6 hO dX4_about_65 f_X4_19 (by first | (simp only [gK_wI]; assumption) | assumption) ⟨by decide, by decide⟩ (v := .ref (x + 4)) (congrArg va_rf g1) ?_
      refine x_get 3 hO dX4_about_68 f_X4_82 (by first | (simp only [gK_wI]; assumption) | assumption) ⟨by decide, by decide⟩ (v := .int (nI (ρ 1))) v4 ?_
      refine x_iret dX4_about_71 rfl rfl ?_
      exact hq
    · have hq := hq rfl C hR Fr_refl
      refine x_tableIn (off := 64) (tgt := 72) dX4_about_8 (by decide +kernel) (by decide +kernel) (by decide +kernel) (by decide) ?_
      refine x_aload_n dX4_about_72 rfl ?_
      refine x_get 6 hO dX4_about_73 f_X4_19 (by first | (simp only [gK_wI]; assumption) | assumption) ⟨by decide, by decide⟩ (v := .ref (x + 4)) (congrArg va_rf g1) ?_
      refine x_get 3 hO dX4_about_76 f_X4_86 (by first | (simp only [gK_wI]; assumption) | assumption) ⟨by decide, by decide⟩ (v := .int (nI (ρ 2))) v5 ?_
      refine x_iret dX4_about_79 rfl rfl ?_
      exact hq
    · have hq := hq rfl C hR Fr_refl
      refine x_tableIn (off := 72) (tgt := 80) dX4_about_8 (by decide +kernel) (by decide +kernel) (by decide +kernel) (by decide) ?_
      refine x_aload_n dX4_about_80 rfl ?_
      refine x_get 6 hO dX4_about_81 f_X4_19 (by first | (simp only [gK_wI]; assumption) | assumption) ⟨by decide, by decide⟩ (v := .ref (x + 4)) (congrArg va_rf g1) ?_
      refine x_get 3 hO dX4_about_84 f_X4_89 (by first | (simp only [gK_wI]; assumption) | assumption) ⟨by decide, by decide⟩ (v := .int (nI (ρ 0))) v6 ?_
      refine x_iret dX4_about_87 rfl rfl ?_
      exact hq
    · have hq := hq rfl C hR Fr_refl
      refine x_tableIn (off := 80) (tgt := 88) dX4_about_8 (by decide +kernel) (by decide +kernel) (by decide +kernel) (by decide) ?_
      refine x_aload_n dX4_about_88 rfl ?_
      refine x_get 6 hO dX4_about_89 f_X4_19 (by first | (simp only [gK_wI]; assumption) | assumption) ⟨by decide, by decide⟩ (v := .ref (x + 4)) (congrArg va_rf g1) ?_
      refine x_get 3 hO dX4_about_92 f_X4_92 (by first | (simp only [gK_wI]; assumption) | assumption) ⟨by decide, by decide⟩ (v := .int (nI (ρ 3))) v7 ?_
      refine x_iret dX4_about_95 rfl rfl ?_
      exact hq
    · have hq := hq rfl C hR Fr_refl
      refine x_tableIn (off := 88) (tgt := 96) dX4_about_8 (by decide +kernel) (by decide +kernel) (by decide +kernel) (by decide) ?_
      refine x_aload_n dX4_about_96 rfl ?_
      refine x_get 6 hO dX4_about_97 f_X4_19 (by first | (simp only [gK_wI]; assumption) | assumption) ⟨by decide, by decide⟩ (v := .ref (x + 4)) (congrArg va_rf g1) ?_
      refine x_get 3 hO dX4_about_100 f_X4_95 (by first | (simp only [gK_wI]; assumption) | assumption) ⟨by decide, by decide⟩ (v := .int (nI (ρ 4))) v8 ?_
      refine x_iret dX4_about_103 rfl rfl ?_
      exact hq
    · have hq := hq rfl C hR Fr_refl
      refine x_tableIn (off := 96) (tgt := 104) dX4_about_8 (by decide +kernel) (by decide +kernel) (by decide +kernel) (by decide) ?_
      refine x_aload_n dX4_about_104 rfl ?_
      refine x_get 6 hO dX4_about_105 f_X4_19 (by first | (simp only [gK_wI]; assumption) | assumption) ⟨by decide, by decide⟩ (v := .ref (x + 4)) (congrArg va_rf g1) ?_
      refine x_get 3 hO dX4_about_108 f_X4_98 (by first | (simp only [gK_wI]; assumption) | assumption) ⟨by decide, by decide⟩ (v := .int (nI (ρ 5))) v9 ?_
      refine x_iret dX4_about_111 rfl rfl ?_
      exact hq
    · have hq := hq rfl C hR Fr_refl
      refine x_tableIn (off := 104) (tgt := 112) dX4_about_8 (by decide +kernel) (by decide +kernel) (by decide +kernel) (by decide) ?_
      refine x_aload_n dX4_about_112 rfl ?_
      refine x_get 6 hO dX4_about_113 f_X4_19 (by first | (simp only [gK_wI]; assumption) | assumption) ⟨by decide, by decide⟩ (v := .ref (x + 4)) (congrArg va_rf g1) ?_
      refine x_get 3 hO dX4_about_116 f_X4_101 (by first | (simp only [gK_wI]; assumption) | assumption) ⟨by decide, by decide⟩ (v := .int (nI (ρ 6))) v10 ?_
      refine x_iret dX4_about_119 rfl rfl ?_
      exact hq
    · have hq := hq rfl C hR Fr_refl
      refine x_tableIn (off := 112) (tgt := 120) dX4_about_8 (by decide +kernel) (by decide +kernel) (by decide +kernel) (by decide) ?_
      refine x_aload_n dX4_about_120 rfl ?_
      refine x_get 6 hO dX4_about_121 f_X4_19 (by first | (simp only [gK_wI]; assumption) | assumption) ⟨by decide, by decide⟩ (v := .ref (x + 4)) (congrArg va_rf g1) ?_
      refine x_callV (As := []) 3 hO dX4_about_124 o_X1_countOut v_X1_countOut l_X4_104 ⟨by decide, by decide⟩ (by first | (simp only [gK_wI]; assumption) | assumption) ⟨by decide, by decide⟩ rfl ⟨by decide, by decide⟩ rfl rfl (Nat.le_of_ble_eq_true rfl) (s_countOut hO hNow vN hW ?_)
      dsimp only [Option.toList, List.cons_append, List.nil_append]
      refine x_iret dX4_about_127 rfl rfl ?_
      exact hq
    · have hq := hq rfl C hR Fr_refl
      refine x_tableIn (off := 120) (tgt := 128) dX4_about_8 (by decide +kernel) (by decide +kernel) (by decide +kernel) (by decide) ?_
      refine x_aload_n dX4_about_128 rfl ?_
      refine x_get 6 hO dX4_about_129 f_X4_19 (by first | (simp only [gK_wI]; assumption) | assumption) ⟨by decide, by decide⟩ (v := .ref (x + 4)) (congrArg va_rf g1) ?_
      refine x_callV (As := []) 3 hO dX4_about_132 o_X1_countLow v_X1_countLow l_X4_107 ⟨by decide, by decide⟩ (by first | (simp only [gK_wI]; assumption) | assumption) ⟨by decide, by decide⟩ rfl ⟨by decide, by decide⟩ rfl rfl (Nat.le_of_ble_eq_true rfl) (s_countLow hO hNow vN hW ?_)
      dsimp only [Option.toList, List.cons_append, List.nil_append]
      refine x_iret dX4_about_135 rfl rfl ?_
      exact hq
    · have hq := hq rfl C hR Fr_refl
      refine x_tableIn (off := 128) (tgt := 136) dX4_about_8 (by decide +kernel) (by decide +kernel) (by decide +kernel) (by decide) ?_
      refine x_aload_n dX4_about_136 rfl ?_
      refine x_get 6 hO dX4_about_137 f_X4_19 (by first | (simp only [gK_wI]; assumption) | assumption) ⟨by decide, by decide⟩ (v := .ref (x + 4)) (congrArg va_rf g1) ?_
      refine x_callV (As := []) 3 hO dX4_about_140 o_X1_isNight v_X1_isNight l_X4_110 ⟨by decide, by decide⟩ (by first | (simp only [gK_wI]; assumption) | assumption) ⟨by decide, by decide⟩ rfl ⟨by decide, by decide⟩ rfl rfl (Nat.le_of_ble_eq_true rfl) (s_isNight hO hNow vN hW (by omega) (fun r140 hr140 => ?_))
      dsimp only [Option.toList, List.cons_append, List.nil_append]
      refine x_if_eq (tgt := 150) dX4_about_143 (by decide) (fun c143 => ?_) (fun c143 => ?_)
      · have p140 := (ite01 hr140).1 c143
        refine x_iconst (v := nI 0) dX4_about_150 (by decide) ?_
        refine x_iret dX4_about_151 rfl rfl ?_
        first | (rw [show abV ρ 9 = 1 from if_pos p140] at hq; exact hq) | (rw [show abV ρ 9 = 0 from if_neg p140] at hq; exact hq)
      · have p140 := (ite01 hr140).2 c143
        refine x_iconst (v := nI 1) dX4_about_146 (by decide) ?_
        refine x_goto (tgt := 151) dX4_about_147 (by decide) ?_
        refine x_iret dX4_about_151 rfl rfl ?_
        first | (rw [show abV ρ 9 = 1 from if_pos p140] at hq; exact hq) | (rw [show abV ρ 9 = 0 from if_neg p140] at hq; exact hq)
    · have hq := hq rfl C hR Fr_refl
      refine x_tableOut (tgt := 152) dX4_about_8 (by decide +kernel) (by decide) ?_
      refine x_aload_n dX4_about_152 rfl ?_
      refine x_get 6 hO dX4_about_153 f_X4_19 (by first | (simp only [gK_wI]; assumption) | assumption) ⟨by decide, by decide⟩ (v := .ref (x + 4)) (congrArg va_rf g1) ?_
      refine x_callV (As := []) 3 hO dX4_about_156 o_X1_sumOfCharges v_X1_sumOfCharges l_X4_113 ⟨by decide, by decide⟩ (by first | (simp only [gK_wI]; assumption) | assumption) ⟨by decide, by decide⟩ rfl ⟨by decide, by decide⟩ rfl rfl (Nat.le_of_ble_eq_true rfl) (s_sumOfCharges hO hNow vN hW ?_)
      dsimp only [Option.toList, List.cons_append, List.nil_append]
      refine x_iret dX4_about_159 rfl rfl ?_
      exact hq
  · have eA : aAbout (S, n, ρ, L, K) w = (1, 0, (S, n, ρ, L, K)) := if_neg h5
    rw [eA] at hx1
    exact fun z hz => hx1 rfl _ (RX_wZ hR hz) (Fr_wZ hz)
theorem t_setting {G : GT} {C : AH} {Q : QT} {X : XT} {sa va : Nat → Nat} {x T n : Nat} {S : Nat → Nat} {ρ : Rw} {L : List Rw} {K : Nat → Option Rw} {w : Int32} (hO : GO G) (hX : GX G sa va) (hT : T ≤ 40000) (hR : RX T C x (S, n, ρ, L, K)) (hq : (aSetting (S, n, ρ, L, K) w).1 = 0 → ∀ C' : AH, RX (T) C' x (aSetting (S, n, ρ, L, K) w).2.2 → Fr C C' x 255 → Q (some (.int (aSetting (S, n, ρ, L, K) w).2.1)) C') (hx1 : (aSetting (S, n, ρ, L, K) w).1 = 1 → ∀ C' : AH, RX (T) C' x (aSetting (S, n, ρ, L, K) w).2.2 → Fr C C' x 255 → X "java/lang/IllegalArgumentException" C') : Mt G M_X4_setting [.ref x, .int w] C Q X := by
  refine Mt_of (by decide) (Nat.le_of_ble_eq_true rfl) ?_
  obtain ⟨hk, π, hs, hv⟩ := id hR
  obtain ⟨hK, ⟨g0, g1, g2, g3, g4, g5, g6⟩, hTx, hNow, hHi, ⟨ks, ns, es⟩, ⟨kf, nf⟩, hTr, hPr, hSl, hgz⟩ := id hs
  have kTx := hTx.1
  have kNow := hNow.1
  have kHi := hHi.1
  have kTr := hTr.1
  have kPr := hPr.1
  obtain ⟨vT, vN, vH, vS⟩ : TxV (gI C) (x + 1) S n ∧ VaD (gI C) (x + 4) ρ ∧ HiV (gI C) (x + 17) π L ∧ SlV (gI C) x K := hv
  obtain ⟨ok1, ok2, ok3, ok4, ok5, ok6⟩ : Ok T ρ ∧ (∀ σ, σ ∈ L → Ok T σ) ∧ (∀ i σ, K i = some σ → Ok T σ) ∧ n ≤ 120 ∧ (∀ i, i < n → S i < 256) ∧ L.length ≤ 14 := hk
  obtain ⟨hW, hB⟩ := id ok1
  obtain ⟨b0, b3, b4, b5, b6, b7⟩ := id hB
  obtain ⟨w1, w2, w7, w8, w9, w10, w11, w11', w12, wB, wP⟩ := id hW
  obtain ⟨s0, s1, s2, s3, v4, v5, v6, v7, v8, v9, v10⟩ := SkD_f hNow vN
  refine x_iload_n dX4_setting_0 rfl ?_
  refine x_iconst (v := nI 0) dX4_setting_1 (by decide) ?_
  refine x_iconst (v := nI 5) dX4_setting_2 (by decide) ?_
  refine x_callS (As := [_, _, _]) hO dX4_setting_3 o_X4_requireWithin s_X4_requireWithin l_X4_44 ⟨by decide, by decide⟩ ⟨by decide, by decide⟩ rfl rfl (Nat.le_of_ble_eq_true rfl) (s_requireWithin hO hX (fun h5 => ?_) (fun h5 => ?_))
  · dsimp only [Option.toList, List.cons_append, List.nil_append]
    obtain ⟨k, hk0, hk9, rfl⟩ := (rng (by decide) (by decide)).mp h5
    have eA : aSetting (S, n, ρ, L, K) (nI k) = (0, nI (ρ (7 + k)), (S, n, ρ, L, K)) := by
      unfold aSetting
      rw [if_pos h5, nI_clamp (by omega)]
    rw [eA] at hq
    refine x_aload_n dX4_setting_6 rfl ?_
    refine x_get 6 hO dX4_setting_7 f_X4_19 (by first | (simp only [gK_wI]; assumption) | assumption) ⟨by decide, by decide⟩ (v := .ref (x + 4)) (congrArg va_rf g1) ?_
    refine x_iload_n dX4_setting_10 rfl ?_
    refine x_callV (As := [_]) 3 hO dX4_setting_11 o_X1_settingOf v_X1_settingOf l_X4_195 ⟨by decide, by decide⟩ (by first | (simp only [gK_wI]; assumption) | assumption) ⟨by decide, by decide⟩ rfl ⟨by decide, by decide⟩ rfl rfl (Nat.le_of_ble_eq_true rfl) (s_settingOf hO hNow vN hW (show k < 6 by omega) ?_)
    dsimp only [Option.toList, List.cons_append, List.nil_append]
    refine x_iret dX4_setting_14 rfl rfl ?_
    exact hq rfl C hR Fr_refl
  · have eA : aSetting (S, n, ρ, L, K) w = (1, 0, (S, n, ρ, L, K)) := if_neg h5
    rw [eA] at hx1
    exact fun z hz => hx1 rfl _ (RX_wZ hR hz) (Fr_wZ hz)

