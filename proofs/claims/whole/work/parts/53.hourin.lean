/-! the reference: an hour *)-/
def LyR (f : Nat → Nat → Int32) (m : Nat) (s : LT) : Prop := (∀ b, b < 8 → f (m + 13) b = nI (s.1 b)) ∧ (∀ b, b < 8 → f (m + 11) b = nI (s.2.2.1 b)) ∧ (∀ b, b < 8 → f (m + 12) b = enc (s.2.2.2.1 b)) ∧ ∀ c, c < 5 → f (m + 10) c = enc (s.2.2.2.2 c)
theorem Vr_up2 {f : Nat → Nat → Int32} {a x j : Nat} {v : Int32} {ρ : Rw} (h : Vr f a ρ) (hne : a ≠ x) : Vr (up2 f x j v) a ρ := fun q hq => (up2_n fun h => hne h.1).trans (h q hq)
theorem Vr_to {f g : Nat → Nat → Int32} {a : Nat} {ρ : Rw} (h : Vr f a ρ) (e : g a = f a) : Vr g a ρ := fun q hq => (congrFun e q).trans (h q hq)
theorem up2_f {α : Type} {f : Nat → Nat → α} {a k b : Nat} {v : α} (h : b ≠ a) : up2 f a k v b = f b := funext fun _ => up2_n fun q => h q.1
theorem layS_n {ρ : Rw} {k : Nat} (h : nxt ρ (layS ρ k).1 = none) : layS ρ (k + 1) = layS ρ k := by
  show (match nxt ρ (layS ρ k).1 with
    | none => layS ρ k
    | some b => _) = _
  rw [h]
theorem layS_s {ρ : Rw} {k b : Nat} (h : nxt ρ (layS ρ k).1 = some b) : layS ρ (k + 1) = (va_up (layS ρ k).1 b 1, (layS ρ k).2.1 - unt ρ (layS ρ k).2.1 b ((ordL ρ).getD k 0), va_up (layS ρ k).2.2.1 b (unt ρ (layS ρ k).2.1 b ((ordL ρ).getD k 0)), va_up (layS ρ k).2.2.2.1 b (some ((ordL ρ).getD k 0)), va_up (layS ρ k).2.2.2.2 ((ordL ρ).getD k 0) (some b)) := by
  show (match nxt ρ (layS ρ k).1 with
    | none => layS ρ k
    | some b => _) = _
  rw [h]
theorem layS_2 {ρ : Rw} {k : Nat} : (layS ρ k).2.1 ≤ ρ 7 := by
  induction k with
  | zero => exact Nat.le_refl _
  | succ k ih =>
    cases h : nxt ρ (layS ρ k).1 with
    | none => rw [layS_n h]; exact ih
    | some b => rw [layS_s h]; exact Nat.le_trans (Nat.sub_le _ _) ih
theorem r_lay {G : GT} {C : AH} {Q : QT} {X : XT} {a : Nat} {ρ : Rw} {m : Nat} (hO : GO G) (hA : RowS C a) (hV : Vr (gI C) a ρ) (hW : Wf ρ) (h0 : ρ 0 < 1000000) (hM : MdS C m) (hne : a < m + 9) (hq : ∀ f : Nat → Nat → Int32, LyR f m (lay ρ) → Lst (f (m + 9)) (ordL ρ) → (∀ b : Nat, b < m + 9 ∨ m + 14 ≤ b → f b = gI C b) → Q none (wI C f)) : Mt G M_X5_lay [.ref m, .ref a] C Q X := by
  refine Mt_of (by decide) (Nat.le_of_ble_eq_true rfl) ?_
  obtain ⟨hm0, ⟨g1, g6, g7, g8, g9, g10, g12, g13, g14, g15, g16, g17, g18⟩, k1, k2, k3, k4, k5, k6, k7, k8, k9, k10, k11, k12, k13, hmz⟩ := id hM
  obtain ⟨w1, w2, w7, w8, w9, w10, w11, w11', w12, wB, wP⟩ := id hW
  have hlen : (ordL ρ).length = ρ 2 := ordM_len wP
  have loop : ∀ (m9 k : Nat) (f : Nat → Nat → Int32), ρ 2 - k = m9 → k ≤ ρ 2 → LyR f m (layS ρ k) → Lst (f (m + 9)) (ordL ρ) → (∀ b : Nat, b < m + 9 ∨ m + 14 ≤ b → f b = gI C b) → Ex G M_X5_lay Q X (mC M_X5_lay) (mS M_X5_lay) 67 [(0, .ref m), (1, .ref a), (2, .int (nI ((layS ρ k).2.1))), (3, .int (nI k))] [] (wI C f) := by
    intro m9
    induction m9 using Nat.strongRecOn with
    | _ m9 ih =>
      intro k f hm9 hk hY hL hf
      obtain ⟨y1, y2, y3, y4⟩ := id hY
      have hVf : Vr f a ρ := Vr_to hV (hf a (by omega))
      have hsub : (layS ρ k).2.1 ≤ 250 := Nat.le_trans layS_2 w7
      refine x_iload_n dX5_lay_67 rfl ?_
      refine x_aload_n dX5_lay_68 rfl ?_
      refine x_iconst (v := nI 2) dX5_lay_69 (by decide) ?_
      refine x_row _ hO dX5_lay_70 hA hVf rfl (by omega) ?_
      refine x_icmp_ge (tgt := 200) dX5_lay_71 (by decide) (fun c71 => ?_) (fun c71 => ?_)
      · simp (disch := omega) only [nI_leI] at c71
        refine x_ret dX5_lay_200 rfl ?_
        have : k = ρ 2 := by omega
        subst this
        exact hq f hY hL hf
      · simp (disch := omega) only [nI_leI] at c71
        have hk8 : k < ρ 2 := by omega
        refine x_aload_n dX5_lay_74 rfl ?_
        refine x_aload_n dX5_lay_75 rfl ?_
        refine x_callV (As := [_]) 7 hO dX5_lay_76 o_X5_next v_X5_next l_X5_100 ⟨by decide, by decide⟩ (by first | (simp only [gK_wI]; assumption) | assumption) ⟨by decide, by decide⟩ rfl ⟨by decide, by decide⟩ rfl rfl (Nat.le_of_ble_eq_true rfl) (r_next hO hA hVf hW h0 (MdS_wI hM) y1 (LI_lay w1 k).2.2.2 ?_)
        dsimp only [Option.toList, List.cons_append, List.nil_append]
        refine x_istore dX5_lay_79 (by decide) ?_
        refine x_iload dX5_lay_81 rfl ?_
        refine x_iconst (v := (-1)) dX5_lay_83 (by decide) ?_
        cases hn : nxt ρ (layS ρ k).1 with
        | none =>
          refine x_icmp_eq (tgt := 194) dX5_lay_84 (by decide) (fun c84 => ?_) (fun c84 => ?_)
          · refine x_iinc (v := nI 1) dX5_lay_194 rfl (by decide) (by decide) ?_
            refine x_goto (tgt := 67) dX5_lay_197 (by decide) ?_
            refine x_ls [(0, .ref m), (1, .ref a), (2, .int (nI ((layS ρ (k + 1)).2.1))), (3, .int (nI (k + 1)))] ⟨rfl, rfl, (by rw [layS_n hn]; rfl), (by rw [← nI_add]; rfl), trivial⟩ ?_
            refine ih (m9 - 1) (by omega) (k + 1) f (by omega) (by omega) (by rw [layS_n hn]; exact hY) hL hf
          · exact absurd rfl c84
        | some b =>
          obtain ⟨n1, n2, n3, n4⟩ := nxt_in hn
          obtain ⟨b0, b0', b1, b2, b2', b3, b4, b34, b6⟩ := wB b n1
          have hcl := ordL_lt (ρ := ρ) (k := k) hk8
          obtain ⟨c, hc⟩ : ∃ c, (ordL ρ).getD k 0 = c := ⟨_, rfl⟩
          rw [hc] at hcl
          obtain ⟨p1, p2⟩ := wP c hcl
          refine x_icmp_eq (tgt := 194) dX5_lay_84 (by decide) (fun c84 => ?_) (fun c84 => ?_)
          · exact absurd c84 (enc_some (by omega))
          · skip
            refine x_aload_n dX5_lay_87 rfl ?_
            refine x_get 7 hO dX5_lay_88 f_X5_47 (by first | (simp only [gK_wI]; assumption) | assumption) ⟨by decide, by decide⟩ (v := .ref (m + 13)) (congrArg va_rf g18) ?_
            refine x_iload dX5_lay_91 rfl ?_
            refine x_iconst (v := nI 1) dX5_lay_93 (by decide) ?_
            refine x_zast b 8 (Or.inr rfl) hO dX5_lay_94 k13.1 rfl k13.2 (by omega) (by decide) ?_
            try simp only [wI_wI, gI_wI]
            refine x_aload_n dX5_lay_95 rfl ?_
            refine x_get 7 hO dX5_lay_96 f_X5_35 (by first | (simp only [gK_wI]; assumption) | assumption) ⟨by decide, by decide⟩ (v := .ref (m + 9)) (congrArg va_rf g14) ?_
            refine x_iload_n dX5_lay_99 rfl ?_
            refine x_iald k 5 hO dX5_lay_100 k9.1 rfl k9.2 (by omega) (by decide) ?_
            rw [show gI (wI C (up2 f (m + 13) b (nI 1))) (m + 9) k = nI c from (congrFun (up2_f (by omega)) k).trans ((hL k (by rw [hlen]; exact hk8)).trans (congrArg nI hc))]
            refine x_istore dX5_lay_101 (by decide) ?_
            refine x_aload_n dX5_lay_103 rfl ?_
            refine x_iload dX5_lay_104 rfl ?_
            refine x_iconst (v := nI 0) dX5_lay_106 (by decide) ?_
            refine x_callS (As := [_, _]) hO dX5_lay_107 o_X5_busAt s_X5_busAt l_X5_67 ⟨by decide, by decide⟩ ⟨by decide, by decide⟩ rfl rfl (Nat.le_of_ble_eq_true rfl) (r_busAt hO ?_)
            dsimp only [Option.toList, List.cons_append, List.nil_append]
            refine x_row _ hO dX5_lay_110 hA (Vr_up2 hVf (by omega)) rfl (by simp only [bi]; omega) ?_
            refine x_aload_n dX5_lay_111 rfl ?_
            refine x_iload dX5_lay_112 rfl ?_
            refine x_iconst (v := nI 1) dX5_lay_114 (by decide) ?_
            refine x_callS (As := [_, _]) hO dX5_lay_115 o_X5_busAt s_X5_busAt l_X5_67 ⟨by decide, by decide⟩ ⟨by decide, by decide⟩ rfl rfl (Nat.le_of_ble_eq_true rfl) (r_busAt hO ?_)
            dsimp only [Option.toList, List.cons_append, List.nil_append]
            refine x_row _ hO dX5_lay_118 hA (Vr_up2 hVf (by omega)) rfl (by simp only [bi]; omega) ?_
            refine x_isub dX5_lay_119 ?_
            rw [pk_sub (by omega)]
            refine x_istore dX5_lay_120 (by decide) ?_
            refine x_aload_n dX5_lay_122 rfl ?_
            refine x_bipush (v := nI 69) dX5_lay_123 (by decide) ?_
            refine x_iload dX5_lay_125 rfl ?_
            refine x_iadd dX5_lay_127 ?_
            refine x_row (69 + c) hO dX5_lay_128 hA (Vr_up2 hVf (by omega)) (nI_add _ _) (by omega) ?_
            refine x_iload dX5_lay_129 rfl ?_
            refine x_icmp_ge (tgt := 144) dX5_lay_131 (by decide) (fun c131 => ?_) (fun c131 => ?_)
            · simp (disch := omega) only [nI_leI] at c131
              refine x_iload dX5_lay_144 rfl ?_
              have hsub : (layS ρ k).2.1 ≤ 250 := Nat.le_trans layS_2 w7
              refine x_istore dX5_lay_146 (by decide) ?_
              refine x_iload dX5_lay_148 rfl ?_
              refine x_iload_n dX5_lay_150 rfl ?_
              refine x_icmp_ge (tgt := 159) dX5_lay_151 (by decide) (fun c151 => ?_) (fun c151 => ?_)
              · simp (disch := omega) only [nI_leI] at c151
                refine x_iload_n dX5_lay_159 rfl ?_
                refine x_istore dX5_lay_160 (by decide) ?_
                have hu : unt ρ (layS ρ k).2.1 b c = (layS ρ k).2.1 := by
                  unfold unt
                  by_cases q1 : ρ (bi b 0) - ρ (bi b 1) < ρ (69 + c)
                  · rw [if_pos q1]; split <;> omega
                  · rw [if_neg q1]; split <;> omega
                refine x_iload_n dX5_lay_162 rfl ?_
                refine x_iload dX5_lay_163 rfl ?_
                refine x_isub dX5_lay_165 ?_
                rw [pk_sub (by omega)]
                refine x_istore_n dX5_lay_166 (by decide) ?_
                refine x_aload_n dX5_lay_167 rfl ?_
                refine x_get 7 hO dX5_lay_168 f_X5_41 (by first | (simp only [gK_wI]; assumption) | assumption) ⟨by decide, by decide⟩ (v := .ref (m + 11)) (congrArg va_rf g16) ?_
                refine x_iload dX5_lay_171 rfl ?_
                refine x_iload dX5_lay_173 rfl ?_
                refine x_iast b 8 hO dX5_lay_175 k11.1 rfl k11.2 (by omega) (by decide) ?_
                refine x_aload_n dX5_lay_176 rfl ?_
                refine x_get 7 hO dX5_lay_177 f_X5_44 (by first | (simp only [gK_wI]; assumption) | assumption) ⟨by decide, by decide⟩ (v := .ref (m + 12)) (congrArg va_rf g17) ?_
                refine x_iload dX5_lay_180 rfl ?_
                refine x_iload dX5_lay_182 rfl ?_
                refine x_iast b 8 hO dX5_lay_184 k12.1 rfl k12.2 (by omega) (by decide) ?_
                refine x_aload_n dX5_lay_185 rfl ?_
                refine x_get 7 hO dX5_lay_186 f_X5_38 (by first | (simp only [gK_wI]; assumption) | assumption) ⟨by decide, by decide⟩ (v := .ref (m + 10)) (congrArg va_rf g15) ?_
                refine x_iload dX5_lay_189 rfl ?_
                refine x_iload dX5_lay_191 rfl ?_
                refine x_iast c 5 hO dX5_lay_193 k10.1 rfl k10.2 (by omega) (by decide) ?_
                refine x_iinc (v := nI 1) dX5_lay_194 rfl (by decide) (by decide) ?_
                refine x_goto (tgt := 67) dX5_lay_197 (by decide) ?_
                try simp only [wI_wI, gI_wI]
                have eK := layS_s hn
                rw [hc, hu] at eK
                refine x_ls [(0, .ref m), (1, .ref a), (2, .int (nI ((layS ρ (k + 1)).2.1))), (3, .int (nI (k + 1)))] ⟨rfl, rfl, (by rw [eK]; rfl), (by rw [← nI_add]; rfl), trivial⟩ ?_
                refine ih (m9 - 1) (by omega) (k + 1) _ (by omega) (by omega) ?_ ?_ (fun q hq => ?_)
                · rw [eK]
                  refine ⟨fun q hq => ?_, fun q hq => ?_, fun q hq => ?_, fun q hq => ?_⟩
                  · dsimp only
                    rw [up2_f (by omega), up2_f (by omega), up2_f (by omega)]
                    by_cases e : q = b
                    · subst e; rw [up2_s, vu_s]
                    · rw [up2_n (fun h => e h.2), vu_n e]; exact y1 q hq
                  · dsimp only
                    rw [up2_f (by omega), up2_f (by omega)]
                    by_cases e : q = b
                    · subst e; rw [up2_s, vu_s]
                    · rw [up2_n (fun h => e h.2), vu_n e, up2_f (by omega)]; exact y2 q hq
                  · dsimp only
                    rw [up2_f (by omega)]
                    by_cases e : q = b
                    · subst e; rw [up2_s, vu_s]; rfl
                    · rw [up2_n (fun h => e h.2), vu_n e, up2_f (by omega), up2_f (by omega)]; exact y3 q hq
                  · dsimp only
                    by_cases e : q = c
                    · subst e; rw [up2_s, vu_s]
                    · rw [up2_n (fun h => e h.2), vu_n e, up2_f (by omega), up2_f (by omega), up2_f (by omega)]; exact y4 q hq
                · rw [up2_f (by omega), up2_f (by omega), up2_f (by omega), up2_f (by omega)]
                  exact hL
                · rw [up2_f (by omega), up2_f (by omega), up2_f (by omega), up2_f (by omega)]
                  exact hf q hq
              · simp (disch := omega) only [nI_leI] at c151
                refine x_iload dX5_lay_154 rfl ?_
                refine x_goto (tgt := 160) dX5_lay_156 (by decide) ?_
                refine x_istore dX5_lay_160 (by decide) ?_
                have hu : unt ρ (layS ρ k).2.1 b c = ρ (bi b 0) - ρ (bi b 1) := by
                  unfold unt
                  by_cases q1 : ρ (bi b 0) - ρ (bi b 1) < ρ (69 + c)
                  · rw [if_pos q1]; split <;> omega
                  · rw [if_neg q1]; split <;> omega
                refine x_iload_n dX5_lay_162 rfl ?_
                refine x_iload dX5_lay_163 rfl ?_
                refine x_isub dX5_lay_165 ?_
                rw [pk_sub (by omega)]
                refine x_istore_n dX5_lay_166 (by decide) ?_
                refine x_aload_n dX5_lay_167 rfl ?_
                refine x_get 7 hO dX5_lay_168 f_X5_41 (by first | (simp only [gK_wI]; assumption) | assumption) ⟨by decide, by decide⟩ (v := .ref (m + 11)) (congrArg va_rf g16) ?_
                refine x_iload dX5_lay_171 rfl ?_
                refine x_iload dX5_lay_173 rfl ?_
                refine x_iast b 8 hO dX5_lay_175 k11.1 rfl k11.2 (by omega) (by decide) ?_
                refine x_aload_n dX5_lay_176 rfl ?_
                refine x_get 7 hO dX5_lay_177 f_X5_44 (by first | (simp only [gK_wI]; assumption) | assumption) ⟨by decide, by decide⟩ (v := .ref (m + 12)) (congrArg va_rf g17) ?_
                refine x_iload dX5_lay_180 rfl ?_
                refine x_iload dX5_lay_182 rfl ?_
                refine x_iast b 8 hO dX5_lay_184 k12.1 rfl k12.2 (by omega) (by decide) ?_
                refine x_aload_n dX5_lay_185 rfl ?_
                refine x_get 7 hO dX5_lay_186 f_X5_38 (by first | (simp only [gK_wI]; assumption) | assumption) ⟨by decide, by decide⟩ (v := .ref (m + 10)) (congrArg va_rf g15) ?_
                refine x_iload dX5_lay_189 rfl ?_
                refine x_iload dX5_lay_191 rfl ?_
                refine x_iast c 5 hO dX5_lay_193 k10.1 rfl k10.2 (by omega) (by decide) ?_
                refine x_iinc (v := nI 1) dX5_lay_194 rfl (by decide) (by decide) ?_
                refine x_goto (tgt := 67) dX5_lay_197 (by decide) ?_
                try simp only [wI_wI, gI_wI]
                have eK := layS_s hn
                rw [hc, hu] at eK
                refine x_ls [(0, .ref m), (1, .ref a), (2, .int (nI ((layS ρ (k + 1)).2.1))), (3, .int (nI (k + 1)))] ⟨rfl, rfl, (by rw [eK]; rfl), (by rw [← nI_add]; rfl), trivial⟩ ?_
                refine ih (m9 - 1) (by omega) (k + 1) _ (by omega) (by omega) ?_ ?_ (fun q hq => ?_)
                · rw [eK]
                  refine ⟨fun q hq => ?_, fun q hq => ?_, fun q hq => ?_, fun q hq => ?_⟩
                  · dsimp only
                    rw [up2_f (by omega), up2_f (by omega), up2_f (by omega)]
                    by_cases e : q = b
                    · subst e; rw [up2_s, vu_s]
                    · rw [up2_n (fun h => e h.2), vu_n e]; exact y1 q hq
                  · dsimp only
                    rw [up2_f (by omega), up2_f (by omega)]
                    by_cases e : q = b
                    · subst e; rw [up2_s, vu_s]
                    · rw [up2_n (fun h => e h.2), vu_n e, up2_f (by omega)]; exact y2 q hq
                  · dsimp only
                    rw [up2_f (by omega)]
                    by_cases e : q = b
                    · subst e; rw [up2_s, vu_s]; rfl
                    · rw [up2_n (fun h => e h.2), vu_n e, up2_f (by omega), up2_f (by omega)]; exact y3 q hq
                  · dsimp only
                    by_cases e : q = c
                    · subst e; rw [up2_s, vu_s]
                    · rw [up2_n (fun h => e h.2), vu_n e, up2_f (by omega), up2_f (by omega), up2_f (by omega)]; exact y4 q hq
                · rw [up2_f (by omega), up2_f (by omega), up2_f (by omega), up2_f (by omega)]
                  exact hL
                · rw [up2_f (by omega), up2_f (by omega), up2_f (by omega), up2_f (by omega)]
                  exact hf q hq
            · simp (disch := omega) only [nI_leI] at c131
              refine x_aload_n dX5_lay_134 rfl ?_
              refine x_bipush (v := nI 69) dX5_lay_135 (by decide) ?_
              refine x_iload dX5_lay_137 rfl ?_
              refine x_iadd dX5_lay_139 ?_
              refine x_row (69 + c) hO dX5_lay_140 hA (Vr_up2 hVf (by omega)) (nI_add _ _) (by omega) ?_
              refine x_goto (tgt := 146) dX5_lay_141 (by decide) ?_
              have hsub : (layS ρ k).2.1 ≤ 250 := Nat.le_trans layS_2 w7
              refine x_istore dX5_lay_146 (by decide) ?_
              refine x_iload dX5_lay_148 rfl ?_
              refine x_iload_n dX5_lay_150 rfl ?_
              refine x_icmp_ge (tgt := 159) dX5_lay_151 (by decide) (fun c151 => ?_) (fun c151 => ?_)
              · simp (disch := omega) only [nI_leI] at c151
                refine x_iload_n dX5_lay_159 rfl ?_
                refine x_istore dX5_lay_160 (by decide) ?_
                have hu : unt ρ (layS ρ k).2.1 b c = (layS ρ k).2.1 := by
                  unfold unt
                  by_cases q1 : ρ (bi b 0) - ρ (bi b 1) < ρ (69 + c)
                  · rw [if_pos q1]; split <;> omega
                  · rw [if_neg q1]; split <;> omega
                refine x_iload_n dX5_lay_162 rfl ?_
                refine x_iload dX5_lay_163 rfl ?_
                refine x_isub dX5_lay_165 ?_
                rw [pk_sub (by omega)]
                refine x_istore_n dX5_lay_166 (by decide) ?_
                refine x_aload_n dX5_lay_167 rfl ?_
                refine x_get 7 hO dX5_lay_168 f_X5_41 (by first | (simp only [gK_wI]; assumption) | assumption) ⟨by decide, by decide⟩ (v := .ref (m + 11)) (congrArg va_rf g16) ?_
                refine x_iload dX5_lay_171 rfl ?_
                refine x_iload dX5_lay_173 rfl ?_
                refine x_iast b 8 hO dX5_lay_175 k11.1 rfl k11.2 (by omega) (by decide) ?_
                refine x_aload_n dX5_lay_176 rfl ?_
                refine x_get 7 hO dX5_lay_177 f_X5_44 (by first | (simp only [gK_wI]; assumption) | assumption) ⟨by decide, by decide⟩ (v := .ref (m + 12)) (congrArg va_rf g17) ?_
                refine x_iload dX5_lay_180 rfl ?_
                refine x_iload dX5_lay_182 rfl ?_
                refine x_iast b 8 hO dX5_lay_184 k12.1 rfl k12.2 (by omega) (by decide) ?_
                refine x_aload_n dX5_lay_185 rfl ?_
                refine x_get 7 hO dX5_lay_186 f_X5_38 (by first | (simp only [gK_wI]; assumption) | assumption) ⟨by decide, by decide⟩ (v := .ref (m + 10)) (congrArg va_rf g15) ?_
                refine x_iload dX5_lay_189 rfl ?_
                refine x_iload dX5_lay_191 rfl ?_
                refine x_iast c 5 hO dX5_lay_193 k10.1 rfl k10.2 (by omega) (by decide) ?_
                refine x_iinc (v := nI 1) dX5_lay_194 rfl (by decide) (by decide) ?_
                refine x_goto (tgt := 67) dX5_lay_197 (by decide) ?_
                try simp only [wI_wI, gI_wI]
                have eK := layS_s hn
                rw [hc, hu] at eK
                refine x_ls [(0, .ref m), (1, .ref a), (2, .int (nI ((layS ρ (k + 1)).2.1))), (3, .int (nI (k + 1)))] ⟨rfl, rfl, (by rw [eK]; rfl), (by rw [← nI_add]; rfl), trivial⟩ ?_
                refine ih (m9 - 1) (by omega) (k + 1) _ (by omega) (by omega) ?_ ?_ (fun q hq => ?_)
                · rw [eK]
                  refine ⟨fun q hq => ?_, fun q hq => ?_, fun q hq => ?_, fun q hq => ?_⟩
                  · dsimp only
                    rw [up2_f (by omega), up2_f (by omega), up2_f (by omega)]
                    by_cases e : q = b
                    · subst e; rw [up2_s, vu_s]
                    · rw [up2_n (fun h => e h.2), vu_n e]; exact y1 q hq
                  · dsimp only
                    rw [up2_f (by omega), up2_f (by omega)]
                    by_cases e : q = b
                    · subst e; rw [up2_s, vu_s]
                    · rw [up2_n (fun h => e h.2), vu_n e, up2_f (by omega)]; exact y2 q hq
                  · dsimp only
                    rw [up2_f (by omega)]
                    by_cases e : q = b
                    · subst e; rw [up2_s, vu_s]; rfl
                    · rw [up2_n (fun h => e h.2), vu_n e, up2_f (by omega), up2_f (by omega)]; exact y3 q hq
                  · dsimp only
                    by_cases e : q = c
                    · subst e; rw [up2_s, vu_s]
                    · rw [up2_n (fun h => e h.2), vu_n e, up2_f (by omega), up2_f (by omega), up2_f (by omega)]; exact y4 q hq
                · rw [up2_f (by omega), up2_f (by omega), up2_f (by omega), up2_f (by omega)]
                  exact hL
                · rw [up2_f (by omega), up2_f (by omega), up2_f (by omega), up2_f (by omega)]
                  exact hf q hq
              · simp (disch := omega) only [nI_leI] at c151
                refine x_iload dX5_lay_154 rfl ?_
                refine x_goto (tgt := 160) dX5_lay_156 (by decide) ?_
                refine x_istore dX5_lay_160 (by decide) ?_
                have hu : unt ρ (layS ρ k).2.1 b c = ρ (69 + c) := by
                  unfold unt
                  by_cases q1 : ρ (bi b 0) - ρ (bi b 1) < ρ (69 + c)
                  · rw [if_pos q1]; split <;> omega
                  · rw [if_neg q1]; split <;> omega
                refine x_iload_n dX5_lay_162 rfl ?_
                refine x_iload dX5_lay_163 rfl ?_
                refine x_isub dX5_lay_165 ?_
                rw [pk_sub (by omega)]
                refine x_istore_n dX5_lay_166 (by decide) ?_
                refine x_aload_n dX5_lay_167 rfl ?_
                refine x_get 7 hO dX5_lay_168 f_X5_41 (by first | (simp only [gK_wI]; assumption) | assumption) ⟨by decide, by decide⟩ (v := .ref (m + 11)) (congrArg va_rf g16) ?_
                refine x_iload dX5_lay_171 rfl ?_
                refine x_iload dX5_lay_173 rfl ?_
                refine x_iast b 8 hO dX5_lay_175 k11.1 rfl k11.2 (by omega) (by decide) ?_
                refine x_aload_n dX5_lay_176 rfl ?_
                refine x_get 7 hO dX5_lay_177 f_X5_44 (by first | (simp only [gK_wI]; assumption) | assumption) ⟨by decide, by decide⟩ (v := .ref (m + 12)) (congrArg va_rf g17) ?_
                refine x_iload dX5_lay_180 rfl ?_
                refine x_iload dX5_lay_182 rfl ?_
                refine x_iast b 8 hO dX5_lay_184 k12.1 rfl k12.2 (by omega) (by decide) ?_
                refine x_aload_n dX5_lay_185 rfl ?_
                refine x_get 7 hO dX5_lay_186 f_X5_38 (by first | (simp only [gK_wI]; assumption) | assumption) ⟨by decide, by decide⟩ (v := .ref (m + 10)) (congrArg va_rf g15) ?_
                refine x_iload dX5_lay_189 rfl ?_
                refine x_iload dX5_lay_191 rfl ?_
                refine x_iast c 5 hO dX5_lay_193 k10.1 rfl k10.2 (by omega) (by decide) ?_
                refine x_iinc (v := nI 1) dX5_lay_194 rfl (by decide) (by decide) ?_
                refine x_goto (tgt := 67) dX5_lay_197 (by decide) ?_
                try simp only [wI_wI, gI_wI]
                have eK := layS_s hn
                rw [hc, hu] at eK
                refine x_ls [(0, .ref m), (1, .ref a), (2, .int (nI ((layS ρ (k + 1)).2.1))), (3, .int (nI (k + 1)))] ⟨rfl, rfl, (by rw [eK]; rfl), (by rw [← nI_add]; rfl), trivial⟩ ?_
                refine ih (m9 - 1) (by omega) (k + 1) _ (by omega) (by omega) ?_ ?_ (fun q hq => ?_)
                · rw [eK]
                  refine ⟨fun q hq => ?_, fun q hq => ?_, fun q hq => ?_, fun q hq => ?_⟩
                  · dsimp only
                    rw [up2_f (by omega), up2_f (by omega), up2_f (by omega)]
                    by_cases e : q = b
                    · subst e; rw [up2_s, vu_s]
                    · rw [up2_n (fun h => e h.2), vu_n e]; exact y1 q hq
                  · dsimp only
                    rw [up2_f (by omega), up2_f (by omega)]
                    by_cases e : q = b
                    · subst e; rw [up2_s, vu_s]
                    · rw [up2_n (fun h => e h.2), vu_n e, up2_f (by omega)]; exact y2 q hq
                  · dsimp only
                    rw [up2_f (by omega)]
                    by_cases e : q = b
                    · subst e; rw [up2_s, vu_s]; rfl
                    · rw [up2_n (fun h => e h.2), vu_n e, up2_f (by omega), up2_f (by omega)]; exact y3 q hq
                  · dsimp only
                    by_cases e : q = c
                    · subst e; rw [up2_s, vu_s]
                    · rw [up2_n (fun h => e h.2), vu_n e, up2_f (by omega), up2_f (by omega), up2_f (by omega)]; exact y4 q hq
                · rw [up2_f (by omega), up2_f (by omega), up2_f (by omega), up2_f (by omega)]
                  exact hL
                · rw [up2_f (by omega), up2_f (by omega), up2_f (by omega), up2_f (by omega)]
                  exact hf q hq
  have k65 : ∀ f : Nat → Nat → Int32, (∀ q : Nat, q < 5 → f (m + 10) q = -1) → (∀ q : Nat, q < 8 → f (m + 13) q = nI 0 ∧ f (m + 11) q = nI 0 ∧ f (m + 12) q = -1) → Lst (f (m + 9)) (ordL ρ) → (∀ b : Nat, b < m + 9 ∨ m + 14 ≤ b → f b = gI C b) → Ex G M_X5_lay Q X (mC M_X5_lay) (mS M_X5_lay) 65 [(0, .ref m), (1, .ref a), (2, .int (nI (ρ 7))), (3, .int (nI 5))] [] (wI C f) := by
    intro f ha hz hL hf
    refine x_iconst (v := nI 0) dX5_lay_65 (by decide) ?_
    refine x_istore_n dX5_lay_66 (by decide) ?_
    refine x_ls [(0, .ref m), (1, .ref a), (2, .int (nI ((layS ρ 0).2.1))), (3, .int (nI 0))] ⟨rfl, rfl, rfl, rfl, trivial⟩ ?_
    exact loop _ 0 f rfl (Nat.zero_le _) ⟨fun q hq => (hz q hq).1, fun q hq => (hz q hq).2.1, fun q hq => (hz q hq).2.2, fun q hq => ha q hq⟩ hL hf
  have loop47 : (∀ f : Nat → Nat → Int32, (∀ q : Nat, q < 5 → f (m + 10) q = -1) → (∀ q : Nat, q < 8 → f (m + 13) q = nI 0 ∧ f (m + 11) q = nI 0 ∧ f (m + 12) q = -1) → Lst (f (m + 9)) (ordL ρ) → (∀ b : Nat, b < m + 9 ∨ m + 14 ≤ b → f b = gI C b) → Ex G M_X5_lay Q X (mC M_X5_lay) (mS M_X5_lay) 65 [(0, .ref m), (1, .ref a), (2, .int (nI (ρ 7))), (3, .int (nI 5))] [] (wI C f)) → ∀ (m9 i : Nat) (f : Nat → Nat → Int32), 5 - i = m9 → i ≤ 5 → (∀ q : Nat, q < i → f (m + 10) q = -1) → (∀ q : Nat, q < 8 → f (m + 13) q = nI 0 ∧ f (m + 11) q = nI 0 ∧ f (m + 12) q = -1) → Lst (f (m + 9)) (ordL ρ) → (∀ b : Nat, b < m + 9 ∨ m + 14 ≤ b → f b = gI C b) → Ex G M_X5_lay Q X (mC M_X5_lay) (mS M_X5_lay) 47 [(0, .ref m), (1, .ref a), (2, .int (nI (ρ 7))), (3, .int (nI i))] [] (wI C f) := by
    intro kk m9
    induction m9 using Nat.strongRecOn with
    | _ m9 ih =>
      intro i f hm9 hi ha hz hL hf
      refine x_iload_n dX5_lay_47 rfl ?_
      refine x_iconst (v := nI 5) dX5_lay_48 (by decide) ?_
      refine x_icmp_ge (tgt := 65) dX5_lay_49 (by decide) (fun c49 => ?_) (fun c49 => ?_)
      · simp (disch := omega) only [nI_leI] at c49
        have : i = 5 := by omega
        subst this
        exact kk f ha hz hL hf
      · simp (disch := omega) only [nI_leI] at c49
        refine x_aload_n dX5_lay_52 rfl ?_
        refine x_get 7 hO dX5_lay_53 f_X5_38 (by first | (simp only [gK_wI]; assumption) | assumption) ⟨by decide, by decide⟩ (v := .ref (m + 10)) (congrArg va_rf g15) ?_
        refine x_iload_n dX5_lay_56 rfl ?_
        refine x_iconst (v := (-1)) dX5_lay_57 (by decide) ?_
        refine x_iast i 5 hO dX5_lay_58 k10.1 rfl k10.2 (by omega) (by decide) ?_
        refine x_iinc (v := nI 1) dX5_lay_59 rfl (by decide) (by decide) ?_
        refine x_goto (tgt := 47) dX5_lay_62 (by decide) ?_
        try simp only [wI_wI, gI_wI]
        refine x_ls [(0, .ref m), (1, .ref a), (2, .int (nI (ρ 7))), (3, .int (nI (i + 1)))] ⟨rfl, rfl, rfl, (by rw [← nI_add]; rfl), trivial⟩ ?_
        refine ih (m9 - 1) (by omega) (i + 1) _ (by omega) (by omega) (fun q hq => ?_) (fun q hq => ?_) ?_ (fun q hq => ?_)
        · by_cases e : q = i
          · subst e; exact up2_s
          · exact (up2_n (fun h => e h.2)).trans (ha q (by omega))
        · rw [up2_f (by omega), up2_f (by omega), up2_f (by omega)]
          exact hz q hq
        · rw [up2_f (by omega)]
          exact hL
        · rw [up2_f (by omega)]
          exact hf q hq
  have k40 : ∀ f : Nat → Nat → Int32, (∀ q : Nat, q < 8 → f (m + 13) q = nI 0 ∧ f (m + 11) q = nI 0 ∧ f (m + 12) q = -1) → Lst (f (m + 9)) (ordL ρ) → (∀ b : Nat, b < m + 9 ∨ m + 14 ≤ b → f b = gI C b) → Ex G M_X5_lay Q X (mC M_X5_lay) (mS M_X5_lay) 40 [(0, .ref m), (1, .ref a), (2, .int (nI 8))] [] (wI C f) := by
    intro f hz hL hf
    refine x_aload_n dX5_lay_40 rfl ?_
    refine x_bipush (v := nI 7) dX5_lay_41 (by decide) ?_
    refine x_row _ hO dX5_lay_43 hA (Vr_to hV (hf a (by omega))) rfl (by omega) ?_
    refine x_istore_n dX5_lay_44 (by decide) ?_
    refine x_iconst (v := nI 0) dX5_lay_45 (by decide) ?_
    refine x_istore_n dX5_lay_46 (by decide) ?_
    refine x_ls [(0, .ref m), (1, .ref a), (2, .int (nI (ρ 7))), (3, .int (nI 0))] ⟨rfl, rfl, rfl, rfl, trivial⟩ ?_
    exact loop47 (fun f ha hz hL hf => k65 f ha hz hL hf) _ 0 f rfl (Nat.zero_le _) (fun q hq => absurd hq (Nat.not_lt_zero q)) hz hL hf
  have loop7 : (∀ f : Nat → Nat → Int32, (∀ q : Nat, q < 8 → f (m + 13) q = nI 0 ∧ f (m + 11) q = nI 0 ∧ f (m + 12) q = -1) → Lst (f (m + 9)) (ordL ρ) → (∀ b : Nat, b < m + 9 ∨ m + 14 ≤ b → f b = gI C b) → Ex G M_X5_lay Q X (mC M_X5_lay) (mS M_X5_lay) 40 [(0, .ref m), (1, .ref a), (2, .int (nI 8))] [] (wI C f)) → ∀ (m9 i : Nat) (f : Nat → Nat → Int32), 8 - i = m9 → i ≤ 8 → (∀ q : Nat, q < i → f (m + 13) q = nI 0 ∧ f (m + 11) q = nI 0 ∧ f (m + 12) q = -1) → Lst (f (m + 9)) (ordL ρ) → (∀ b : Nat, b < m + 9 ∨ m + 14 ≤ b → f b = gI C b) → Ex G M_X5_lay Q X (mC M_X5_lay) (mS M_X5_lay) 7 [(0, .ref m), (1, .ref a), (2, .int (nI i))] [] (wI C f) := by
    intro kk m9
    induction m9 using Nat.strongRecOn with
    | _ m9 ih =>
      intro i f hm9 hi hz hL hf
      refine x_iload_n dX5_lay_7 rfl ?_
      refine x_bipush (v := nI 8) dX5_lay_8 (by decide) ?_
      refine x_icmp_ge (tgt := 40) dX5_lay_10 (by decide) (fun c10 => ?_) (fun c10 => ?_)
      · simp (disch := omega) only [nI_leI] at c10
        have : i = 8 := by omega
        subst this
        exact kk f hz hL hf
      · simp (disch := omega) only [nI_leI] at c10
        refine x_aload_n dX5_lay_13 rfl ?_
        refine x_get 7 hO dX5_lay_14 f_X5_41 (by first | (simp only [gK_wI]; assumption) | assumption) ⟨by decide, by decide⟩ (v := .ref (m + 11)) (congrArg va_rf g16) ?_
        refine x_iload_n dX5_lay_17 rfl ?_
        refine x_iconst (v := nI 0) dX5_lay_18 (by decide) ?_
        refine x_iast i 8 hO dX5_lay_19 k11.1 rfl k11.2 (by omega) (by decide) ?_
        refine x_aload_n dX5_lay_20 rfl ?_
        refine x_get 7 hO dX5_lay_21 f_X5_44 (by first | (simp only [gK_wI]; assumption) | assumption) ⟨by decide, by decide⟩ (v := .ref (m + 12)) (congrArg va_rf g17) ?_
        refine x_iload_n dX5_lay_24 rfl ?_
        refine x_iconst (v := (-1)) dX5_lay_25 (by decide) ?_
        refine x_iast i 8 hO dX5_lay_26 k12.1 rfl k12.2 (by omega) (by decide) ?_
        refine x_aload_n dX5_lay_27 rfl ?_
        refine x_get 7 hO dX5_lay_28 f_X5_47 (by first | (simp only [gK_wI]; assumption) | assumption) ⟨by decide, by decide⟩ (v := .ref (m + 13)) (congrArg va_rf g18) ?_
        refine x_iload_n dX5_lay_31 rfl ?_
        refine x_iconst (v := nI 0) dX5_lay_32 (by decide) ?_
        refine x_zast i 8 (Or.inl rfl) hO dX5_lay_33 k13.1 rfl k13.2 (by omega) (by decide) ?_
        refine x_iinc (v := nI 1) dX5_lay_34 rfl (by decide) (by decide) ?_
        refine x_goto (tgt := 7) dX5_lay_37 (by decide) ?_
        try simp only [wI_wI, gI_wI]
        refine x_ls [(0, .ref m), (1, .ref a), (2, .int (nI (i + 1)))] ⟨rfl, rfl, (by rw [← nI_add]; rfl), trivial⟩ ?_
        refine ih (m9 - 1) (by omega) (i + 1) _ (by omega) (by omega) (fun q hq => ?_) ?_ (fun q hq => ?_)
        · by_cases e : q = i
          · subst e
            exact ⟨up2_s, (congrFun (up2_f (by omega)) q).trans ((congrFun (up2_f (by omega)) q).trans up2_s), (congrFun (up2_f (by omega)) q).trans up2_s⟩
          · obtain ⟨z1, z2, z3⟩ := hz q (by omega)
            exact ⟨(up2_n (fun h => e h.2)).trans ((congrFun (up2_f (by omega)) q).trans ((congrFun (up2_f (by omega)) q).trans z1)), (congrFun (up2_f (by omega)) q).trans ((congrFun (up2_f (by omega)) q).trans ((up2_n (fun h => e h.2)).trans z2)), (congrFun (up2_f (by omega)) q).trans ((up2_n (fun h => e h.2)).trans ((congrFun (up2_f (by omega)) q).trans z3))⟩
        · rw [up2_f (by omega), up2_f (by omega), up2_f (by omega)]
          exact hL
        · rw [up2_f (by omega), up2_f (by omega), up2_f (by omega)]
          exact hf q hq
  refine x_aload_n dX5_lay_0 rfl ?_
  refine x_aload_n dX5_lay_1 rfl ?_
  refine x_callV (As := [_]) 7 hO dX5_lay_2 o_X5_layOrder v_X5_layOrder l_X5_97 ⟨by decide, by decide⟩ (by first | (simp only [gK_wI]; assumption) | assumption) ⟨by decide, by decide⟩ rfl ⟨by decide, by decide⟩ rfl rfl (Nat.le_of_ble_eq_true rfl) (r_layOrder hO hA hV hW hM (by omega) (fun f2 h2 h3 => ?_))
  dsimp only [Option.toList, List.cons_append, List.nil_append]
  refine x_iconst (v := nI 0) dX5_lay_5 (by decide) ?_
  refine x_istore_n dX5_lay_6 (by decide) ?_
  refine x_ls [(0, .ref m), (1, .ref a), (2, .int (nI 0))] ⟨rfl, rfl, rfl, trivial⟩ ?_
  exact loop7 (fun f hz hL hf => k40 f hz hL hf) _ 0 f2 rfl (Nat.zero_le _) (fun q hq => absurd hq (Nat.not_lt_zero q)) h2 (fun b hb => h3 b (by omega))

theorem r_hourIn {G : GT} {C : AH} {Q : QT} {X : XT} {a : Nat} {ρ : Rw} {m : Nat} {T : Nat} (hO : GO G) (hA : RowS C a) (hV : Vr (gI C) a ρ) (hW : Wf ρ) (hB : Bd T 0 ρ) (hT : T ≤ 60000) (hM : MdS C m) (hne : a < m + 9) (hq : ∀ f : Nat → Nat → Int32, Vr f a (hour1 ρ) → (∀ b : Nat, b ≠ a → b < m + 9 ∨ m + 14 ≤ b → f b = gI C b) → Q none (wI C f)) : Mt G M_X5_hourIn [.ref m, .ref a] C Q X := by
  refine Mt_of (by decide) (Nat.le_of_ble_eq_true rfl) ?_
  obtain ⟨hm0, ⟨g1, g6, g7, g8, g9, g10, g12, g13, g14, g15, g16, g17, g18⟩, k1, k2, k3, k4, k5, k6, k7, k8, k9, k10, k11, k12, k13, hmz⟩ := id hM
  have h0 : ρ 0 < 1000000 := by have := hB.1; omega
  have b00 : back ρ 0 = ρ 0 := back_o fun b hb => by simp only [bi]; omega
  have hBb := Bd_back hB hW.1
  have hwb : ∀ b, b < back ρ 1 → back ρ (bi b 5) < 2000000 := fun b hb => by have := hBb.2.2.2.2.2 b hb; omega
  have hWm := (Wf_mved hW).1
  have hm1 := (Wf_mved hW).2
  obtain ⟨w1, w2, w7, w8, w9, w10, w11, w11', w12, wB, wP⟩ := id hWm
  rw [hm1] at w1
  have hσ1 : ∀ {i : Nat}, itB (chg (pric (mved ρ)) (lay (mved ρ)).2.2.1) i (mved ρ) 1 = ρ 1 := (itB_o (P := fun b j => j ≠ bi b 1 ∧ j ≠ 4 ∧ j ≠ 3) (fun _ _ _ h => chg_o h.1 h.2.1 h.2.2) (fun b hb => ⟨by simp only [bi]; omega, by decide, by decide⟩)).trans hm1
  have hσ0 : ∀ {i : Nat}, itB (chg (pric (mved ρ)) (lay (mved ρ)).2.2.1) i (mved ρ) 0 = mved ρ 0 := itB_o (P := fun b j => j ≠ bi b 1 ∧ j ≠ 4 ∧ j ≠ 3) (fun _ _ _ h => chg_o h.1 h.2.1 h.2.2) (fun b hb => ⟨by simp only [bi]; omega, by decide, by decide⟩)
  have loop : ∀ (m9 i : Nat) (f : Nat → Nat → Int32), ρ 1 - i = m9 → i ≤ ρ 1 → Vr f a (itB (chg (pric (mved ρ)) (lay (mved ρ)).2.2.1) i (mved ρ)) → (∀ b, b < 8 → f (m + 11) b = nI ((lay (mved ρ)).2.2.1 b)) → (∀ b : Nat, b ≠ a → b < m + 9 ∨ m + 14 ≤ b → f b = gI C b) → Ex G M_X5_hourIn Q X (mC M_X5_hourIn) (mS M_X5_hourIn) 33 [(0, .ref m), (1, .ref a), (2, .int (nI (pric (mved ρ)))), (3, .int (nI i))] [] (wI C f) := by
    intro m9
    induction m9 using Nat.strongRecOn with
    | _ m9 ih =>
      intro i f hm9 hi hVf hg hf
      refine x_iload_n dX5_hourIn_33 rfl ?_
      refine x_aload_n dX5_hourIn_34 rfl ?_
      refine x_iconst (v := nI 1) dX5_hourIn_35 (by decide) ?_
      refine x_row _ hO dX5_hourIn_36 hA hVf rfl (by omega) ?_
      rw [hσ1]
      refine x_icmp_ge (tgt := 88) dX5_hourIn_37 (by decide) (fun c37 => ?_) (fun c37 => ?_)
      · simp (disch := omega) only [nI_leI] at c37
        have : i = ρ 1 := by omega
        subst this
        refine x_aload_n dX5_hourIn_88 rfl ?_
        refine x_iconst (v := nI 0) dX5_hourIn_89 (by decide) ?_
        refine x_dup2 dX5_hourIn_90 rfl rfl ?_
        refine x_row _ hO dX5_hourIn_91 hA hVf rfl (by omega) ?_
        refine x_iconst (v := nI 1) dX5_hourIn_92 (by decide) ?_
        refine x_iadd dX5_hourIn_93 ?_
        refine x_rowS 0 _ hO dX5_hourIn_94 hA hVf rfl (by omega) (nI_add _ _) (fun f94 v94 r94 => ?_)
        refine x_ret dX5_hourIn_95 rfl ?_
        refine hq f94 ?_ (fun b h1 h2 => (r94 b h1).trans (hf b h1 h2))
        have e9 : hour1 ρ = uN (itB (chg (pric (mved ρ)) (lay (mved ρ)).2.2.1) (ρ 1) (mved ρ)) 0 (itB (chg (pric (mved ρ)) (lay (mved ρ)).2.2.1) (ρ 1) (mved ρ) 0 + 1) := by
          unfold hour1
          rw [hσ0, mved_0]
        rw [e9]
        exact v94
      · simp (disch := omega) only [nI_leI] at c37
        refine x_aload_n dX5_hourIn_40 rfl ?_
        refine x_iload_n dX5_hourIn_41 rfl ?_
        refine x_iconst (v := nI 1) dX5_hourIn_42 (by decide) ?_
        refine x_callS (As := [_, _]) hO dX5_hourIn_43 o_X5_busAt s_X5_busAt l_X5_67 ⟨by decide, by decide⟩ ⟨by decide, by decide⟩ rfl rfl (Nat.le_of_ble_eq_true rfl) (r_busAt hO ?_)
        dsimp only [Option.toList, List.cons_append, List.nil_append]
        refine x_dup2 dX5_hourIn_46 rfl rfl ?_
        refine x_row _ hO dX5_hourIn_47 hA hVf rfl (by simp only [bi]; omega) ?_
        refine x_aload_n dX5_hourIn_48 rfl ?_
        refine x_get 7 hO dX5_hourIn_49 f_X5_41 (by first | (simp only [gK_wI]; assumption) | assumption) ⟨by decide, by decide⟩ (v := .ref (m + 11)) (congrArg va_rf g16) ?_
        refine x_iload_n dX5_hourIn_52 rfl ?_
        refine x_iald i 8 hO dX5_hourIn_53 k11.1 rfl k11.2 (by omega) (by decide) ?_
        try simp only [wI_wI, gI_wI]
        rw [show f (m + 11) i = nI ((lay (mved ρ)).2.2.1 i) from hg i (by omega)]
        refine x_iadd dX5_hourIn_54 ?_
        refine x_rowS (bi i 1) _ hO dX5_hourIn_55 hA hVf rfl (by simp only [bi]; omega) (nI_add _ _) (fun f55 v55 r55 => ?_)
        refine x_aload_n dX5_hourIn_56 rfl ?_
        refine x_iconst (v := nI 4) dX5_hourIn_57 (by decide) ?_
        refine x_dup2 dX5_hourIn_58 rfl rfl ?_
        refine x_row _ hO dX5_hourIn_59 hA v55 rfl (by omega) ?_
        rw [uN_n (by (try simp only [bi]); omega)]
        refine x_aload_n dX5_hourIn_60 rfl ?_
        refine x_get 7 hO dX5_hourIn_61 f_X5_41 (by first | (simp only [gK_wI]; assumption) | assumption) ⟨by decide, by decide⟩ (v := .ref (m + 11)) (congrArg va_rf g16) ?_
        refine x_iload_n dX5_hourIn_64 rfl ?_
        refine x_iald i 8 hO dX5_hourIn_65 k11.1 rfl k11.2 (by omega) (by decide) ?_
        try simp only [wI_wI, gI_wI]
        rw [show f55 (m + 11) i = nI ((lay (mved ρ)).2.2.1 i) from (congrFun (r55 _ (by omega)) i).trans (hg i (by omega))]
        refine x_iadd dX5_hourIn_66 ?_
        refine x_rowS 4 _ hO dX5_hourIn_67 hA v55 rfl (by omega) (nI_add _ _) (fun f67 v67 r67 => ?_)
        refine x_aload_n dX5_hourIn_68 rfl ?_
        refine x_iconst (v := nI 3) dX5_hourIn_69 (by decide) ?_
        refine x_dup2 dX5_hourIn_70 rfl rfl ?_
        refine x_row _ hO dX5_hourIn_71 hA v67 rfl (by omega) ?_
        rw [uN_n (by (try simp only [bi]); omega), uN_n (by (try simp only [bi]); omega)]
        refine x_aload_n dX5_hourIn_72 rfl ?_
        refine x_get 7 hO dX5_hourIn_73 f_X5_41 (by first | (simp only [gK_wI]; assumption) | assumption) ⟨by decide, by decide⟩ (v := .ref (m + 11)) (congrArg va_rf g16) ?_
        refine x_iload_n dX5_hourIn_76 rfl ?_
        refine x_iald i 8 hO dX5_hourIn_77 k11.1 rfl k11.2 (by omega) (by decide) ?_
        try simp only [wI_wI, gI_wI]
        rw [show f67 (m + 11) i = nI ((lay (mved ρ)).2.2.1 i) from (congrFun (r67 _ (by omega)) i).trans ((congrFun (r55 _ (by omega)) i).trans (hg i (by omega)))]
        refine x_iload_n dX5_hourIn_78 rfl ?_
        refine x_imul dX5_hourIn_79 ?_
        rw [pk_mul]
        refine x_iadd dX5_hourIn_80 ?_
        refine x_rowS 3 _ hO dX5_hourIn_81 hA v67 rfl (by omega) (nI_add _ _) (fun f81 v81 r81 => ?_)
        refine x_iinc (v := nI 1) dX5_hourIn_82 rfl (by decide) (by decide) ?_
        refine x_goto (tgt := 33) dX5_hourIn_85 (by decide) ?_
        refine x_ls [(0, .ref m), (1, .ref a), (2, .int (nI (pric (mved ρ)))), (3, .int (nI (i + 1)))] ⟨rfl, rfl, rfl, (by rw [← nI_add]; rfl), trivial⟩ ?_
        refine ih (m9 - 1) (by omega) (i + 1) f81 (by omega) (by omega) v81 (fun b hb => (congrFun ((r81 _ (by omega)).trans ((r67 _ (by omega)).trans (r55 _ (by omega)))) b).trans (hg b hb)) (fun b h1 h2 => (r81 b h1).trans ((r67 b h1).trans ((r55 b h1).trans (hf b h1 h2))))
  refine x_aload_n dX5_hourIn_0 rfl ?_
  refine x_callS (As := [_]) hO dX5_hourIn_1 o_X5_comeBack s_X5_comeBack l_X5_104 ⟨by decide, by decide⟩ ⟨by decide, by decide⟩ rfl rfl (Nat.le_of_ble_eq_true rfl) (r_comeBack hO hA hV hW h0 (fun f1 v1 r1 => ?_))
  dsimp only [Option.toList, List.cons_append, List.nil_append]
  refine x_aload_n dX5_hourIn_4 rfl ?_
  refine x_callS (As := [_]) hO dX5_hourIn_5 o_X5_leave s_X5_leave l_X5_107 ⟨by decide, by decide⟩ ⟨by decide, by decide⟩ rfl rfl (Nat.le_of_ble_eq_true rfl) (r_leave (C := wI C f1) hO hA v1 (Wf_back hW).1 (by rw [b00]; exact h0) hwb (fun f5 v5 r5 => ?_))
  dsimp only [Option.toList, List.cons_append, List.nil_append]
  have v5 : Vr f5 a (mved ρ) := v5
  refine x_aload_n dX5_hourIn_8 rfl ?_
  refine x_aload_n dX5_hourIn_9 rfl ?_
  refine x_callV (As := [_]) 7 hO dX5_hourIn_10 o_X5_lay v_X5_lay l_X5_110 ⟨by decide, by decide⟩ (by first | (simp only [gK_wI]; assumption) | assumption) ⟨by decide, by decide⟩ rfl ⟨by decide, by decide⟩ rfl rfl (Nat.le_of_ble_eq_true rfl) (r_lay (C := wI C f5) hO hA v5 hWm (by rw [mved_0]; exact h0) (MdS_wI hM) hne (fun f10 y10 l10 r10 => ?_))
  dsimp only [Option.toList, List.cons_append, List.nil_append]
  refine x_aload_n dX5_hourIn_13 rfl ?_
  refine x_bipush (v := nI 7) dX5_hourIn_14 (by decide) ?_
  refine x_aload_n dX5_hourIn_16 rfl ?_
  refine x_callS (As := [_]) hO dX5_hourIn_17 o_X5_isNight s_X5_isNight l_X5_93 ⟨by decide, by decide⟩ ⟨by decide, by decide⟩ rfl rfl (Nat.le_of_ble_eq_true rfl) (r_isNight (C := wI C f10) hO hA (Vr_to v5 (r10 a (by omega))) w12 (by rw [mved_0]; exact h0) (fun r17 hr17 => ?_))
  dsimp only [Option.toList, List.cons_append, List.nil_append]
  refine x_if_eq (tgt := 27) dX5_hourIn_20 (by decide) (fun c20 => ?_) (fun c20 => ?_)
  · have p17 := (ite01 hr17).1 c20
    refine x_iconst (v := nI 1) dX5_hourIn_27 (by decide) ?_
    refine x_iadd dX5_hourIn_28 ?_
    refine x_row _ hO dX5_hourIn_29 hA (Vr_to v5 (r10 a (by omega))) (nI_add _ _) (by omega) ?_
    refine x_istore_n dX5_hourIn_30 (by decide) ?_
    refine x_iconst (v := nI 0) dX5_hourIn_31 (by decide) ?_
    refine x_istore_n dX5_hourIn_32 (by decide) ?_
    refine x_ls [(0, .ref m), (1, .ref a), (2, .int (nI (pric (mved ρ)))), (3, .int (nI 0))] ⟨rfl, rfl, (by unfold pric; first | (rw [if_pos (show nite (mved ρ) from p17)]; rfl) | (rw [if_neg (show ¬ nite (mved ρ) from p17)]; rfl)), rfl, trivial⟩ ?_
    exact loop _ 0 f10 rfl (Nat.zero_le _) (Vr_to v5 (r10 a (by omega))) y10.2.1 (fun b h1 h2 => (r10 b h2).trans ((r5 b h1).trans (r1 b h1)))
  · have p17 := (ite01 hr17).2 c20
    refine x_iconst (v := nI 2) dX5_hourIn_23 (by decide) ?_
    refine x_goto (tgt := 28) dX5_hourIn_24 (by decide) ?_
    refine x_iadd dX5_hourIn_28 ?_
    refine x_row _ hO dX5_hourIn_29 hA (Vr_to v5 (r10 a (by omega))) (nI_add _ _) (by omega) ?_
    refine x_istore_n dX5_hourIn_30 (by decide) ?_
    refine x_iconst (v := nI 0) dX5_hourIn_31 (by decide) ?_
    refine x_istore_n dX5_hourIn_32 (by decide) ?_
    refine x_ls [(0, .ref m), (1, .ref a), (2, .int (nI (pric (mved ρ)))), (3, .int (nI 0))] ⟨rfl, rfl, (by unfold pric; first | (rw [if_pos (show nite (mved ρ) from p17)]; rfl) | (rw [if_neg (show ¬ nite (mved ρ) from p17)]; rfl)), rfl, trivial⟩ ?_
    exact loop _ 0 f10 rfl (Nat.zero_le _) (Vr_to v5 (r10 a (by omega))) y10.2.1 (fun b h1 h2 => (r10 b h2).trans ((r5 b h1).trans (r1 b h1)))

theorem r_runIn {G : GT} {C : AH} {Q : QT} {X : XT} {a : Nat} {ρ : Rw} {m : Nat} {T n : Nat} (hO : GO G) (hA : RowS C a) (hV : Vr (gI C) a ρ) (hW : Wf ρ) (hB : Bd T 0 ρ) (hT : T + n ≤ 50000) (hM : MdS C m) (hne : a < m + 9) (hq : ∀ f : Nat → Nat → Int32, Vr f a (runN n ρ) → (∀ b : Nat, b ≠ a → b < m + 9 ∨ m + 14 ≤ b → f b = gI C b) → Q (some (.int (nI (runN n ρ 4) - nI (ρ 4)))) (wI C f)) : Mt G M_X5_runIn [.ref m, .ref a, .int (nI n)] C Q X := by
  refine Mt_of (by decide) (Nat.le_of_ble_eq_true rfl) ?_
  obtain ⟨hm0, ⟨g1, g6, g7, g8, g9, g10, g12, g13, g14, g15, g16, g17, g18⟩, k1, k2, k3, k4, k5, k6, k7, k8, k9, k10, k11, k12, k13, hmz⟩ := id hM
  have loop : ∀ (m9 i : Nat) (f : Nat → Nat → Int32), n - i = m9 → i ≤ n → Vr f a (runN i ρ) → (∀ b : Nat, b ≠ a → b < m + 9 ∨ m + 14 ≤ b → f b = gI C b) → Ex G M_X5_runIn Q X (mC M_X5_runIn) (mS M_X5_runIn) 7 [(0, .ref m), (1, .ref a), (2, .int (nI n)), (3, .int (nI (ρ 4))), (4, .int (nI i))] [] (wI C f) := by
    intro m9
    induction m9 using Nat.strongRecOn with
    | _ m9 ih =>
      intro i f hm9 hi hVf hf
      obtain ⟨hW2, hB2, -⟩ := runN_ok (n := i) hW hB
      refine x_iload dX5_runIn_7 rfl ?_
      refine x_iload_n dX5_runIn_9 rfl ?_
      refine x_icmp_ge (tgt := 24) dX5_runIn_10 (by decide) (fun c10 => ?_) (fun c10 => ?_)
      · simp (disch := omega) only [nI_leI] at c10
        refine x_aload_n dX5_runIn_24 rfl ?_
        refine x_iconst (v := nI 4) dX5_runIn_25 (by decide) ?_
        refine x_row _ hO dX5_runIn_26 hA hVf rfl (by omega) ?_
        refine x_iload_n dX5_runIn_27 rfl ?_
        refine x_isub dX5_runIn_28 ?_
        refine x_iret dX5_runIn_29 rfl rfl ?_
        have : i = n := by omega
        subst this
        exact hq f hVf hf
      · simp (disch := omega) only [nI_leI] at c10
        refine x_aload_n dX5_runIn_13 rfl ?_
        refine x_aload_n dX5_runIn_14 rfl ?_
        refine x_callV (As := [_]) 7 hO dX5_runIn_15 o_X5_hourIn v_X5_hourIn l_X5_113 ⟨by decide, by decide⟩ (by first | (simp only [gK_wI]; assumption) | assumption) ⟨by decide, by decide⟩ rfl ⟨by decide, by decide⟩ rfl rfl (Nat.le_of_ble_eq_true rfl) (r_hourIn (C := wI C f) hO hA hVf hW2 hB2 (by omega) (MdS_wI hM) hne (fun f15 v15 r15 => ?_))
        dsimp only [Option.toList, List.cons_append, List.nil_append]
        refine x_iinc (v := nI 1) dX5_runIn_18 rfl (by decide) (by decide) ?_
        refine x_goto (tgt := 7) dX5_runIn_21 (by decide) ?_
        refine x_ls [(0, .ref m), (1, .ref a), (2, .int (nI n)), (3, .int (nI (ρ 4))), (4, .int (nI (i + 1)))] ⟨rfl, rfl, rfl, rfl, (by rw [← nI_add]; rfl), trivial⟩ ?_
        exact ih (m9 - 1) (by omega) (i + 1) f15 (by omega) (by omega) v15 (fun b h1 h2 => (r15 b h1 h2).trans (hf b h1 h2))
  refine x_aload_n dX5_runIn_0 rfl ?_
  refine x_iconst (v := nI 4) dX5_runIn_1 (by decide) ?_
  refine x_row _ hO dX5_runIn_2 hA hV rfl (by omega) ?_
  refine x_istore_n dX5_runIn_3 (by decide) ?_
  refine x_iconst (v := nI 0) dX5_runIn_4 (by decide) ?_
  refine x_istore dX5_runIn_5 (by decide) ?_
  refine x_ls [(0, .ref m), (1, .ref a), (2, .int (nI n)), (3, .int (nI (ρ 4))), (4, .int (nI 0))] ⟨rfl, rfl, rfl, rfl, rfl, trivial⟩ ?_
  exact loop _ 0 (gI C) rfl (Nat.zero_le _) hV fun _ _ _ => rfl

