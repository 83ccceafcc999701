/-! the text: numbers, words, commands *)-/
theorem up2_up2 {α : Type} {g : Nat → Nat → α} {a k : Nat} {v w : α} : up2 (up2 g a k v) a k w = up2 g a k w := by
  funext b j
  simp only [up2]
  split <;> rfl
theorem TxV_at {g : Nat → Nat → Int32} {t n p : Nat} {S : Nat → Nat} (h : TxV g t S n) : TxV (up2 g t 2 (nI p)) t S n := by
  refine ⟨by rw [up2_n (by omega)]; exact h.1, h.2.1, fun i hi => ?_⟩
  rw [up2_n (by omega)]
  exact h.2.2 i hi
theorem nmb_stop {S : Nat → Nat} {n lo hi f p v : Nat} (h : ¬ (isD (ch S n p) ∧ Beg (10 * v + (ch S n p - 48)) lo hi)) : nmb S n lo hi (f + 1) p v = (if isD (ch S n p) then false else decide (lo ≤ v), p, v) := by
  unfold nmb
  by_cases q : isD (ch S n p)
  · rw [if_pos q, if_pos q, if_neg (fun b => h ⟨q, b⟩)]
  · rw [if_neg q, if_neg q]
theorem nmb_go {S : Nat → Nat} {n lo hi f p v : Nat} (h : isD (ch S n p)) (b : Beg (10 * v + (ch S n p - 48)) lo hi) : nmb S n lo hi (f + 1) p v = nmb S n lo hi f (p + 1) (10 * v + (ch S n p - 48)) := by
  show (if _ then _ else _) = _
  rw [if_pos h, if_pos b]

theorem s_readNumber {G : GT} {C : AH} {Q : QT} {X : XT} {t n : Nat} {S : Nat → Nat} {k lo hi p0 : Nat} (hO : GO G) (hS : TxS C t) (hV : TxV (gI C) t S n) (hp0 : p0 ≤ n) (ha : gI C t 2 = nI p0) (hk : k < 5) (hlo : lo < 1000) (hhi : hi < 1000) (hq : ∀ (r : Int32) (f : Nat → Nat → Int32), f t 2 = nI (pNum S n lo hi p0).2.1 → ((pNum S n lo hi p0).1 = true → r = 1 ∧ f (t + 2) k = nI (pNum S n lo hi p0).2.2) → ((pNum S n lo hi p0).1 = false → r = 0 ∨ (r = 1 ∧ isD (ch S n (pNum S n lo hi p0).2.1))) → (∀ j, j ≠ 2 → f t j = gI C t j) → (∀ j, j ≠ k → f (t + 2) j = gI C (t + 2) j) → (∀ a, a ≠ t → a ≠ t + 2 → f a = gI C a) → Q (some (.int r)) (wI C f)) : Mt G M_X3_readNumber [.ref t, .int (nI k), .int (nI lo), .int (nI hi)] C Q X := by
  refine Mt_of (by decide) (Nat.le_of_ble_eq_true rfl) ?_
  obtain ⟨k0, g0, g4, k1, n1, k2, n2⟩ := id hS
  obtain ⟨v1, v2, v3⟩ := id hV
  have f0 : fV C 5 t 0 = .ref (t + 1) := congrArg va_rf g0
  have f4 : fV C 5 t 4 = .ref (t + 2) := congrArg va_rf g4
  have f1 : fV C 5 t 1 = .int (nI n) := congrArg Value.int v1
  have st85 : ∀ (p v : Nat) (g : Bool), v < 100000 → pNum S n lo hi p0 = (g, p, v) → (g = true → lo ≤ v ∧ v ≤ hi) → (g = false → ¬ (lo ≤ v ∧ v ≤ hi) ∨ isD (ch S n p)) → Ex G M_X3_readNumber Q X (mC M_X3_readNumber) (mS M_X3_readNumber) 85 [(0, .ref t), (1, .int (nI k)), (2, .int (nI lo)), (3, .int (nI hi)), (4, .int (nI v))] [] (wI C (up2 (gI C) t 2 (nI (p)))) := by
    intro p v g hv hE hg1 hg0
    have hin : (nI lo ≤ nI v ∧ nI v ≤ nI hi) ↔ (lo ≤ v ∧ v ≤ hi) := by
      rw [nI_leI (by omega) (by omega), nI_leI (by omega) (by omega)]
    refine x_iload dX3_readNumber_85 rfl ?_
    refine x_iload_n dX3_readNumber_87 rfl ?_
    refine x_iload_n dX3_readNumber_88 rfl ?_
    refine x_callSN (As := [_, _, _]) hO dX3_readNumber_89 o_X4_isWithin s_X4_isWithin (n_X3_96 hO) ⟨by decide, by decide⟩ ⟨by decide, by decide⟩ rfl rfl (Nat.le_of_ble_eq_true rfl) (s_isWithin hO (fun r89 hr89 => ?_))
    dsimp only [Option.toList, List.cons_append, List.nil_append]
    refine x_if_eq (tgt := 104) dX3_readNumber_92 (by decide) (fun c92 => ?_) (fun c92 => ?_)
    · have p89 := (ite01 hr89).1 c92
      rw [hin] at p89
      refine x_iconst (v := nI 0) dX3_readNumber_104 (by decide) ?_
      refine x_iret dX3_readNumber_105 rfl (by first | rfl | assumption) ?_
      refine hq 0 _ ?_ ?_ (fun _ => Or.inl rfl) (fun j hj => up2_n (by omega)) (fun j hj => up2_n (by omega)) (fun a h1 h2 => funext fun j => up2_n (by omega))
      · rw [up2_s, hE]
      · intro h9
        rw [hE] at h9
        exact absurd (hg1 h9) p89
    · have p89 := (ite01 hr89).2 c92
      rw [hin] at p89
      refine x_iload_n dX3_readNumber_95 rfl ?_
      refine x_iconst (v := nI 0) dX3_readNumber_96 (by decide) ?_
      refine x_iconst (v := nI 4) dX3_readNumber_97 (by decide) ?_
      refine x_callSN (As := [_, _, _]) hO dX3_readNumber_98 o_X4_isWithin s_X4_isWithin (n_X3_96 hO) ⟨by decide, by decide⟩ ⟨by decide, by decide⟩ rfl rfl (Nat.le_of_ble_eq_true rfl) (s_isWithin hO (fun r98 hr98 => ?_))
      dsimp only [Option.toList, List.cons_append, List.nil_append]
      refine x_if_ne (tgt := 106) dX3_readNumber_101 (by decide) (fun c101 => ?_) (fun c101 => ?_)
      · have p98 := (ite01 hr98).2 c101
        refine x_aload_n dX3_readNumber_106 rfl ?_
        refine x_get 5 hO dX3_readNumber_107 f_X3_15 (by first | (simp only [gK_wI]; assumption) | assumption) ⟨by decide, by decide⟩ (v := .ref (t + 2)) f4 ?_
        refine x_iload_n dX3_readNumber_110 rfl ?_
        refine x_iload dX3_readNumber_111 rfl ?_
        refine x_iast _ _ hO dX3_readNumber_113 (by first | (simp only [gK_wI]; assumption) | assumption) rfl (by first | (simp only [gN_wI]; assumption) | assumption) (by omega) (by decide) ?_
        refine x_iconst (v := nI 1) dX3_readNumber_114 (by decide) ?_
        refine x_iret dX3_readNumber_115 rfl (by first | rfl | assumption) ?_
        simp only [wI_wI, gI_wI]
        refine hq 1 _ ?_ ?_ ?_ (fun j hj => ?_) (fun j hj => ?_) (fun a h1 h2 => funext fun j => ?_)
        · rw [up2_n (by omega), up2_s, hE]
        · intro _
          exact ⟨rfl, by rw [up2_s, hE]⟩
        · intro h9
          rw [hE] at h9 ⊢
          exact Or.inr ⟨rfl, (hg0 h9).resolve_left fun q => q p89⟩
        · rw [up2_n (by omega), up2_n (by omega)]
        · rw [up2_n (by omega), up2_n (by omega)]
        · rw [up2_n (by omega), up2_n (by omega)]
      · have p98 := (ite01 hr98).1 c101
        refine x_iconst (v := nI 0) dX3_readNumber_104 (by decide) ?_
        refine x_iret dX3_readNumber_105 rfl (by first | rfl | assumption) ?_
        exact absurd ⟨nI_le (Nat.zero_le _) (by omega), nI_le (show k ≤ 4 by omega) (by decide)⟩ p98
  have st3 : ∀ p v : Nat, 0 < v → v ≤ hi → (∃ g, pNum S n lo hi p0 = nmb S n lo hi (g + 1) p v) → ¬ (isD (ch S n p) ∧ Beg (10 * v + (ch S n p - 48)) lo hi) → Ex G M_X3_readNumber Q X (mC M_X3_readNumber) (mS M_X3_readNumber) 36 [(0, .ref t), (1, .int (nI k)), (2, .int (nI lo)), (3, .int (nI hi)), (4, .int (nI v)), (5, .int (nI 3))] [] (wI C (up2 (gI C) t 2 (nI (p)))) := by
    intro p v hv0 hv hE hs
    obtain ⟨g, hE⟩ := hE
    rw [nmb_stop hs] at hE
    refine x_ls [(0, .ref t), (1, .int (nI k)), (2, .int (nI lo)), (3, .int (nI hi)), (4, .int (nI v)), (5, .int (nI 3))] ⟨rfl, rfl, rfl, rfl, rfl, rfl, trivial⟩ ?_
    refine x_iload dX3_readNumber_36 rfl ?_
    refine x_iconst (v := nI 3) dX3_readNumber_38 (by decide) ?_
    refine x_icmp_ge (tgt := 85) dX3_readNumber_39 (by decide) (fun c39 => ?_) (fun c39 => ?_)
    · refine x_ls [(0, .ref t), (1, .int (nI k)), (2, .int (nI lo)), (3, .int (nI hi)), (4, .int (nI v))] ⟨rfl, rfl, rfl, rfl, rfl, trivial⟩ ?_
      refine st85 p v _ (by omega) hE (fun h9 => ?_) (fun h9 => ?_)
      · split at h9
        · exact absurd h9 (by decide)
        · exact ⟨by simpa using h9, hv⟩
      · split at h9
        · rename_i q; exact Or.inr q
        · refine Or.inl fun q => ?_
          have h8 : ¬ lo ≤ v := by simpa using h9
          exact h8 q.1
    · exact absurd (show nI 3 ≤ nI 3 by decide) c39
  have st2 : ∀ p v : Nat, 0 < v → v ≤ hi → p ≤ n → ((10 ≤ v ∧ pNum S n lo hi p0 = nmb S n lo hi 2 p v) ∨ (pNum S n lo hi p0 = nmb S n lo hi 3 p v ∧ ¬ (isD (ch S n p) ∧ Beg (10 * v + (ch S n p - 48)) lo hi))) → Ex G M_X3_readNumber Q X (mC M_X3_readNumber) (mS M_X3_readNumber) 36 [(0, .ref t), (1, .int (nI k)), (2, .int (nI lo)), (3, .int (nI hi)), (4, .int (nI v)), (5, .int (nI 2))] [] (wI C (up2 (gI C) t 2 (nI (p)))) := by
    intro p v hv0 hv hpn hE
    refine x_iload dX3_readNumber_36 rfl ?_
    refine x_iconst (v := nI 3) dX3_readNumber_38 (by decide) ?_
    refine x_icmp_ge (tgt := 85) dX3_readNumber_39 (by decide) (fun c39 => ?_) (fun c39 => ?_)
    · exact absurd c39 (by decide)
    · refine x_iload dX3_readNumber_42 rfl ?_
      refine x_if_le (tgt := 85) dX3_readNumber_44 (by decide) (fun c44 => ?_) (fun c44 => ?_)
      · exact absurd c44 (nI_nle hv0 (by omega))
      · refine x_aload_n dX3_readNumber_47 rfl ?_
        refine x_bipush (v := nI 10) dX3_readNumber_48 (by decide) ?_
        refine x_iload dX3_readNumber_50 rfl ?_
        refine x_imul dX3_readNumber_52 ?_
        rw [pk_mul]
        refine x_iload_n dX3_readNumber_53 rfl ?_
        refine x_iload_n dX3_readNumber_54 rfl ?_
        refine x_callV (As := [_, _, _]) 5 hO dX3_readNumber_55 o_X3_readDigit v_X3_readDigit l_X3_90 ⟨by decide, by decide⟩ (by first | (simp only [gK_wI]; assumption) | assumption) ⟨by decide, by decide⟩ rfl ⟨by decide, by decide⟩ rfl rfl (Nat.le_of_ble_eq_true rfl) (s_readDigit (C := (wI C (up2 (gI C) t 2 (nI (p))))) (p := p) (z := 10 * v) hO hS (TxV_at hV) (by omega) up2_s (by omega) hlo hhi (fun d1 d2 => ?_) (fun d1 => ?_))
        · dsimp only [Option.toList, List.cons_append, List.nil_append]
          simp only [wI_wI, gI_wI, up2_up2]
          refine x_if_eq (tgt := 79) dX3_readNumber_58 (by decide) (fun c58 => ?_) (fun c58 => ?_)
          · exact absurd c58 (by decide)
          · refine x_bipush (v := nI 10) dX3_readNumber_61 (by decide) ?_
            refine x_iload dX3_readNumber_63 rfl ?_
            refine x_imul dX3_readNumber_65 ?_
            rw [pk_mul]
            refine x_aload_n dX3_readNumber_66 rfl ?_
            refine x_aload_n dX3_readNumber_67 rfl ?_
            refine x_get 5 hO dX3_readNumber_68 f_X3_27 (by first | (simp only [gK_wI]; assumption) | assumption) ⟨by decide, by decide⟩ (v := .int (nI (p + 1))) (congrArg Value.int up2_s) ?_
            refine x_iconst (v := nI 1) dX3_readNumber_71 (by decide) ?_
            refine x_isub dX3_readNumber_72 ?_
            rw [show nI (p + 1) - nI 1 = nI p from nI_pred _]
            refine x_callV (As := [_]) 5 hO dX3_readNumber_73 o_X3_digitAt v_X3_digitAt l_X3_93 ⟨by decide, by decide⟩ (by first | (simp only [gK_wI]; assumption) | assumption) ⟨by decide, by decide⟩ rfl ⟨by decide, by decide⟩ rfl rfl (Nat.le_of_ble_eq_true rfl) (s_digitAt (C := (wI C (up2 (gI C) t 2 (nI (p + 1))))) (p := p) hO hS (TxV_at hV) (by omega) ?_)
            dsimp only [Option.toList, List.cons_append, List.nil_append]
            rw [show dI S n p = nI (ch S n p - 48) from if_pos d1]
            refine x_iadd dX3_readNumber_76 ?_
            rw [nI_add]
            refine x_istore dX3_readNumber_77 (by decide) ?_
            refine x_iinc (v := nI 1) dX3_readNumber_79 rfl (by decide) (by decide) ?_
            refine x_goto (tgt := 36) dX3_readNumber_82 (by decide) ?_
            have hb10 := d2
            unfold Beg at hb10
            refine x_ls [(0, .ref t), (1, .int (nI k)), (2, .int (nI lo)), (3, .int (nI hi)), (4, .int (nI (10 * v + (ch S n p - 48)))), (5, .int (nI 3))] ⟨rfl, rfl, rfl, rfl, rfl, rfl, trivial⟩ ?_
            rcases hE with ⟨h10, hE⟩ | ⟨hE, hs⟩
            · refine st3 _ _ (by omega) (by omega) ⟨1 - 1, by rw [hE, nmb_go d1 d2]⟩ (fun q => ?_)
              have := q.2
              unfold Beg at this
              omega
            · exact absurd ⟨d1, d2⟩ hs
        · dsimp only [Option.toList, List.cons_append, List.nil_append]
          refine x_if_eq (tgt := 79) dX3_readNumber_58 (by decide) (fun c58 => ?_) (fun c58 => ?_)
          · refine x_iinc (v := nI 1) dX3_readNumber_79 rfl (by decide) (by decide) ?_
            refine x_goto (tgt := 36) dX3_readNumber_82 (by decide) ?_
            refine x_ls [(0, .ref t), (1, .int (nI k)), (2, .int (nI lo)), (3, .int (nI hi)), (4, .int (nI (v))), (5, .int (nI 3))] ⟨rfl, rfl, rfl, rfl, rfl, rfl, trivial⟩ ?_
            rcases hE with ⟨h10, hE⟩ | ⟨hE, hs⟩
            · exact st3 _ _ hv0 hv ⟨1, hE⟩ d1
            · exact st3 _ _ hv0 hv ⟨2, hE⟩ d1
          · exact absurd rfl c58
  have st1 : ∀ p v : Nat, 0 < v → v ≤ hi → p ≤ n → pNum S n lo hi p0 = nmb S n lo hi 3 p v → Ex G M_X3_readNumber Q X (mC M_X3_readNumber) (mS M_X3_readNumber) 36 [(0, .ref t), (1, .int (nI k)), (2, .int (nI lo)), (3, .int (nI hi)), (4, .int (nI v)), (5, .int (nI 1))] [] (wI C (up2 (gI C) t 2 (nI (p)))) := by
    intro p v hv0 hv hpn hE
    refine x_iload dX3_readNumber_36 rfl ?_
    refine x_iconst (v := nI 3) dX3_readNumber_38 (by decide) ?_
    refine x_icmp_ge (tgt := 85) dX3_readNumber_39 (by decide) (fun c39 => ?_) (fun c39 => ?_)
    · exact absurd c39 (by decide)
    · refine x_iload dX3_readNumber_42 rfl ?_
      refine x_if_le (tgt := 85) dX3_readNumber_44 (by decide) (fun c44 => ?_) (fun c44 => ?_)
      · exact absurd c44 (nI_nle hv0 (by omega))
      · refine x_aload_n dX3_readNumber_47 rfl ?_
        refine x_bipush (v := nI 10) dX3_readNumber_48 (by decide) ?_
        refine x_iload dX3_readNumber_50 rfl ?_
        refine x_imul dX3_readNumber_52 ?_
        rw [pk_mul]
        refine x_iload_n dX3_readNumber_53 rfl ?_
        refine x_iload_n dX3_readNumber_54 rfl ?_
        refine x_callV (As := [_, _, _]) 5 hO dX3_readNumber_55 o_X3_readDigit v_X3_readDigit l_X3_90 ⟨by decide, by decide⟩ (by first | (simp only [gK_wI]; assumption) | assumption) ⟨by decide, by decide⟩ rfl ⟨by decide, by decide⟩ rfl rfl (Nat.le_of_ble_eq_true rfl) (s_readDigit (C := (wI C (up2 (gI C) t 2 (nI (p))))) (p := p) (z := 10 * v) hO hS (TxV_at hV) (by omega) up2_s (by omega) hlo hhi (fun d1 d2 => ?_) (fun d1 => ?_))
        · dsimp only [Option.toList, List.cons_append, List.nil_append]
          simp only [wI_wI, gI_wI, up2_up2]
          refine x_if_eq (tgt := 79) dX3_readNumber_58 (by decide) (fun c58 => ?_) (fun c58 => ?_)
          · exact absurd c58 (by decide)
          · refine x_bipush (v := nI 10) dX3_readNumber_61 (by decide) ?_
            refine x_iload dX3_readNumber_63 rfl ?_
            refine x_imul dX3_readNumber_65 ?_
            rw [pk_mul]
            refine x_aload_n dX3_readNumber_66 rfl ?_
            refine x_aload_n dX3_readNumber_67 rfl ?_
            refine x_get 5 hO dX3_readNumber_68 f_X3_27 (by first | (simp only [gK_wI]; assumption) | assumption) ⟨by decide, by decide⟩ (v := .int (nI (p + 1))) (congrArg Value.int up2_s) ?_
            refine x_iconst (v := nI 1) dX3_readNumber_71 (by decide) ?_
            refine x_isub dX3_readNumber_72 ?_
            rw [show nI (p + 1) - nI 1 = nI p from nI_pred _]
            refine x_callV (As := [_]) 5 hO dX3_readNumber_73 o_X3_digitAt v_X3_digitAt l_X3_93 ⟨by decide, by decide⟩ (by first | (simp only [gK_wI]; assumption) | assumption) ⟨by decide, by decide⟩ rfl ⟨by decide, by decide⟩ rfl rfl (Nat.le_of_ble_eq_true rfl) (s_digitAt (C := (wI C (up2 (gI C) t 2 (nI (p + 1))))) (p := p) hO hS (TxV_at hV) (by omega) ?_)
            dsimp only [Option.toList, List.cons_append, List.nil_append]
            rw [show dI S n p = nI (ch S n p - 48) from if_pos d1]
            refine x_iadd dX3_readNumber_76 ?_
            rw [nI_add]
            refine x_istore dX3_readNumber_77 (by decide) ?_
            refine x_iinc (v := nI 1) dX3_readNumber_79 rfl (by decide) (by decide) ?_
            refine x_goto (tgt := 36) dX3_readNumber_82 (by decide) ?_
            have hb10 := d2
            unfold Beg at hb10
            refine x_ls [(0, .ref t), (1, .int (nI k)), (2, .int (nI lo)), (3, .int (nI hi)), (4, .int (nI (10 * v + (ch S n p - 48)))), (5, .int (nI 2))] ⟨rfl, rfl, rfl, rfl, rfl, rfl, trivial⟩ ?_
            exact st2 _ _ (by omega) (by omega) (by have := ch_lt (S := S) (c := ch S n p) rfl (by unfold isD at d1; omega); omega) (Or.inl ⟨by omega, by rw [hE, nmb_go d1 d2]⟩)
        · dsimp only [Option.toList, List.cons_append, List.nil_append]
          refine x_if_eq (tgt := 79) dX3_readNumber_58 (by decide) (fun c58 => ?_) (fun c58 => ?_)
          · refine x_iinc (v := nI 1) dX3_readNumber_79 rfl (by decide) (by decide) ?_
            refine x_goto (tgt := 36) dX3_readNumber_82 (by decide) ?_
            refine x_ls [(0, .ref t), (1, .int (nI k)), (2, .int (nI lo)), (3, .int (nI hi)), (4, .int (nI (v))), (5, .int (nI 2))] ⟨rfl, rfl, rfl, rfl, rfl, rfl, trivial⟩ ?_
            exact st2 _ _ hv0 hv hpn (Or.inr ⟨hE, d1⟩)
          · exact absurd rfl c58
  have st0 : ∀ p : Nat, pNum S n lo hi p0 = (true, p, 0) → lo = 0 → Ex G M_X3_readNumber Q X (mC M_X3_readNumber) (mS M_X3_readNumber) 36 [(0, .ref t), (1, .int (nI k)), (2, .int (nI lo)), (3, .int (nI hi)), (4, .int (nI 0)), (5, .int (nI 1))] [] (wI C (up2 (gI C) t 2 (nI (p)))) := by
    intro p hE hl0
    refine x_iload dX3_readNumber_36 rfl ?_
    refine x_iconst (v := nI 3) dX3_readNumber_38 (by decide) ?_
    refine x_icmp_ge (tgt := 85) dX3_readNumber_39 (by decide) (fun c39 => ?_) (fun c39 => ?_)
    · exact absurd c39 (by decide)
    · refine x_iload dX3_readNumber_42 rfl ?_
      refine x_if_le (tgt := 85) dX3_readNumber_44 (by decide) (fun c44 => ?_) (fun c44 => ?_)
      · refine x_ls [(0, .ref t), (1, .int (nI k)), (2, .int (nI lo)), (3, .int (nI hi)), (4, .int (nI 0))] ⟨rfl, rfl, rfl, rfl, rfl, trivial⟩ ?_
        exact st85 p 0 true (by decide) hE (fun _ => ⟨by omega, Nat.zero_le _⟩) (fun h9 => absurd h9 (by decide))
      · exact absurd (show nI 0 ≤ 0 by decide) c44
  refine x_aload_n dX3_readNumber_0 rfl ?_
  refine x_bipush (v := nI 44) dX3_readNumber_1 (by decide) ?_
  refine x_callV (As := [_]) 5 hO dX3_readNumber_3 o_X3_readSign v_X3_readSign l_X3_33 ⟨by decide, by decide⟩ (by first | (simp only [gK_wI]; assumption) | assumption) ⟨by decide, by decide⟩ rfl ⟨by decide, by decide⟩ rfl rfl (Nat.le_of_ble_eq_true rfl) (s_readSign (p := p0) hO hS hV (by omega) ha (by decide) (fun h3 => ?_) (fun h3 => ?_))
  · dsimp only [Option.toList, List.cons_append, List.nil_append]
    refine x_if_eq (tgt := 19) dX3_readNumber_6 (by decide) (fun c6 => ?_) (fun c6 => ?_)
    · exact absurd c6 (by decide)
    · refine x_aload_n dX3_readNumber_9 rfl ?_
      refine x_iconst (v := nI 0) dX3_readNumber_10 (by decide) ?_
      refine x_iload_n dX3_readNumber_11 rfl ?_
      refine x_iload_n dX3_readNumber_12 rfl ?_
      refine x_callV (As := [_, _, _]) 5 hO dX3_readNumber_13 o_X3_readDigit v_X3_readDigit l_X3_90 ⟨by decide, by decide⟩ (by first | (simp only [gK_wI]; assumption) | assumption) ⟨by decide, by decide⟩ rfl ⟨by decide, by decide⟩ rfl rfl (Nat.le_of_ble_eq_true rfl) (s_readDigit (C := (wI C (up2 (gI C) t 2 (nI (p0 + 1))))) (p := p0 + 1) (z := 0) hO hS (TxV_at hV) (by omega) up2_s (by decide) hlo hhi (fun d1 d2 => ?_) (fun d1 => ?_))
      · dsimp only [Option.toList, List.cons_append, List.nil_append]
        simp only [wI_wI, gI_wI, up2_up2]
        refine x_if_ne (tgt := 21) dX3_readNumber_16 (by decide) (fun c16 => ?_) (fun c16 => ?_)
        · refine x_aload_n dX3_readNumber_21 rfl ?_
          refine x_aload_n dX3_readNumber_22 rfl ?_
          refine x_get 5 hO dX3_readNumber_23 f_X3_27 (by first | (simp only [gK_wI]; assumption) | assumption) ⟨by decide, by decide⟩ (v := .int (nI (p0 + 2))) (congrArg Value.int up2_s) ?_
          refine x_iconst (v := nI 1) dX3_readNumber_26 (by decide) ?_
          refine x_isub dX3_readNumber_27 ?_
          rw [show nI (p0 + 2) - nI 1 = nI (p0 + 1) from nI_pred _]
          refine x_callV (As := [_]) 5 hO dX3_readNumber_28 o_X3_digitAt v_X3_digitAt l_X3_93 ⟨by decide, by decide⟩ (by first | (simp only [gK_wI]; assumption) | assumption) ⟨by decide, by decide⟩ rfl ⟨by decide, by decide⟩ rfl rfl (Nat.le_of_ble_eq_true rfl) (s_digitAt (C := (wI C (up2 (gI C) t 2 (nI (p0 + 2))))) (p := p0 + 1) hO hS (TxV_at hV) (by omega) ?_)
          dsimp only [Option.toList, List.cons_append, List.nil_append]
          rw [show dI S n (p0 + 1) = nI (ch S n (p0 + 1) - 48) from if_pos d1]
          refine x_istore dX3_readNumber_31 (by decide) ?_
          refine x_iconst (v := nI 1) dX3_readNumber_33 (by decide) ?_
          refine x_istore dX3_readNumber_34 (by decide) ?_
          rw [Nat.zero_add] at d2
          have hdd := d1
          unfold isD at hdd
          have hb10 := d2
          unfold Beg at hb10
          have hpn2 : p0 + 1 < n := ch_lt (S := S) rfl (by omega)
          by_cases hz : ch S n (p0 + 1) = 48
          · have hE : pNum S n lo hi p0 = (true, p0 + 2, 0) := by
              unfold pNum
              rw [if_pos h3, if_pos ⟨d1, d2⟩, if_pos hz]
            refine x_ls [(0, .ref t), (1, .int (nI k)), (2, .int (nI lo)), (3, .int (nI hi)), (4, .int (nI 0)), (5, .int (nI 1))] ⟨rfl, rfl, rfl, rfl, (by rw [hz]; rfl), rfl, trivial⟩ ?_
            exact st0 _ hE (by omega)
          · have hE : pNum S n lo hi p0 = nmb S n lo hi 3 (p0 + 2) (ch S n (p0 + 1) - 48) := by
              unfold pNum
              rw [if_pos h3, if_pos ⟨d1, d2⟩, if_neg hz]
            refine x_ls [(0, .ref t), (1, .int (nI k)), (2, .int (nI lo)), (3, .int (nI hi)), (4, .int (nI (ch S n (p0 + 1) - 48))), (5, .int (nI 1))] ⟨rfl, rfl, rfl, rfl, rfl, rfl, trivial⟩ ?_
            exact st1 _ _ (by omega) (by omega) (by omega) hE
        · exact absurd c16 (by decide)
      · dsimp only [Option.toList, List.cons_append, List.nil_append]
        refine x_if_ne (tgt := 21) dX3_readNumber_16 (by decide) (fun c16 => ?_) (fun c16 => ?_)
        · exact absurd rfl c16
        · refine x_iconst (v := nI 0) dX3_readNumber_19 (by decide) ?_
          refine x_iret dX3_readNumber_20 rfl (by first | rfl | assumption) ?_
          have hE : pNum S n lo hi p0 = (false, p0 + 1, 0) := by
            unfold pNum
            rw [if_pos h3, if_neg (fun q => d1 (by rw [Nat.zero_add]; exact q))]
          refine hq 0 _ ?_ ?_ (fun _ => Or.inl rfl) (fun j hj => up2_n (by omega)) (fun j hj => up2_n (by omega)) (fun a h1 h2 => funext fun j => up2_n (by omega))
          · rw [up2_s, hE]
          · intro h9
            rw [hE] at h9
            exact absurd h9 Bool.false_ne_true
  · dsimp only [Option.toList, List.cons_append, List.nil_append]
    refine x_if_eq (tgt := 19) dX3_readNumber_6 (by decide) (fun c6 => ?_) (fun c6 => ?_)
    · refine x_iconst (v := nI 0) dX3_readNumber_19 (by decide) ?_
      refine x_iret dX3_readNumber_20 rfl (by first | rfl | assumption) ?_
      have hE : pNum S n lo hi p0 = (false, p0, 0) := by
        unfold pNum
        rw [if_neg h3]
      refine hq 0 (gI C) ?_ ?_ (fun _ => Or.inl rfl) (fun _ _ => rfl) (fun _ _ => rfl) (fun _ _ _ => rfl)
      · rw [ha, hE]
      · intro h9
        rw [hE] at h9
        exact absurd h9 Bool.false_ne_true
    · exact absurd rfl c6

