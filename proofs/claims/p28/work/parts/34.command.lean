/-! words and commands *)-/
theorem pC_f {S : Nat → Nat} {n c : Nat} {s : PS} (h : s.1 = false) : pC S n c s = s := by
  unfold pC
  rw [if_neg (fun q => by rw [h] at q; exact absurd q.1 Bool.false_ne_true)]
  obtain ⟨a, b⟩ := s
  cases h
  rfl
theorem pW_f {S : Nat → Nat} {n : Nat} {w : List Nat} {s : PS} (h : s.1 = false) : pW S n w s = s := by
  induction w generalizing s with
  | nil => rfl
  | cons c w ih =>
    show pW S n w (pC S n c s) = s
    rw [pC_f h, ih h]
theorem pN_f {S : Nat → Nat} {n lo hi k : Nat} {s : PS} (h : s.1 = false) : pN S n lo hi k s = s := if_neg (by rw [h]; exact Bool.false_ne_true)
/-- what the reader has found, and its answer -/
def RC (f g : Nat → Nat → Int32) (t : Nat) (S : Nat → Nat) (n : Nat) (s : PS) (k : Nat) (r : Int32) : Prop :=
  f t 2 = nI s.2.1 ∧ (s.1 = true → r = 1 ∧ ∀ j, j < k → f (t + 2) j = nI (s.2.2 j)) ∧ (s.1 = false → r = 0 ∨ (r = 1 ∧ isD (ch S n s.2.1))) ∧ (∀ j, j ≠ 2 → f t j = g t j) ∧ ∀ a, a ≠ t → a ≠ t + 2 → f a = g a
theorem RC_f {f g : Nat → Nat → Int32} {t : Nat} {S : Nat → Nat} {n : Nat} {s : PS} {k : Nat} {r : Int32} (h : RC f g t S n s k r) (hr : r = 0) : s.1 = false := by
  cases e : s.1 with
  | false => rfl
  | true =>
    have := (h.2.1 e).1
    rw [hr] at this
    exact absurd this (by decide)
theorem RC_s {f g : Nat → Nat → Int32} {t : Nat} {S : Nat → Nat} {n : Nat} {s : PS} {k : Nat} {r : Int32} (h : RC f g t S n s k r) (hr : r = 0) (lo hi k1 k2 : Nat) : RC f g t S n (pN S n lo hi k1 s) k2 r := by
  have e := RC_f h hr
  rw [pN_f e]
  exact ⟨h.1, fun q => absurd (q.symm.trans e) (by decide), h.2.2⟩
theorem RC_1 {f g : Nat → Nat → Int32} {t : Nat} {S : Nat → Nat} {n : Nat} {s : PS} {k : Nat} {r : Int32} (h : RC f g t S n s k r) (hr : ¬ r = 0) : r = 1 := by
  cases e : s.1 with
  | false => exact ((h.2.2.1 e).resolve_left hr).1
  | true => exact (h.2.1 e).1
theorem TxV_RC {f g : Nat → Nat → Int32} {t : Nat} {S : Nat → Nat} {n : Nat} {s : PS} {k : Nat} {r : Int32} (h : RC f g t S n s k r) (hV : TxV g t S n) : TxV f t S n := by
  refine ⟨by rw [h.2.2.2.1 1 (by omega)]; exact hV.1, hV.2.1, fun i hi => ?_⟩
  rw [h.2.2.2.2 (t + 1) (by omega) (by omega)]
  exact hV.2.2 i hi

theorem s_rn {G : GT} {C : AH} {Q : QT} {X : XT} {t n : Nat} {S : Nat → Nat} {g : Nat → Nat → Int32} {s : PS} {k lo hi : Nat} {r0 : Int32} (hO : GO G) (hS : TxS C t) (hV : TxV (gI C) t S n) (hR : RC (gI C) g t S n s k r0) (hr0 : ¬ r0 = 0) (hsp : s.2.1 ≤ n) (hk : k < 5) (hlo : lo < 1000) (hhi : hi < 1000) (hq : ∀ (r : Int32) (f : Nat → Nat → Int32), RC f g t S n (pN S n lo hi k s) (k + 1) r → Q (some (.int r)) (wI C f)) : Mt G M_X3_readNumber [.ref t, .int (nI k), .int (nI lo), .int (nI hi)] C Q X := by
  obtain ⟨r1, r2, r3, r4, r5⟩ := hR
  refine s_readNumber hO hS hV hsp r1 hk hlo hhi fun r f h1 h2 h3 h4 h5 h6 => hq r f ?_
  cases e : s.1 with
  | true =>
    have eN : pN S n lo hi k s = ((pNum S n lo hi s.2.1).1, (pNum S n lo hi s.2.1).2.1, uN s.2.2 k (pNum S n lo hi s.2.1).2.2) := if_pos e
    rw [eN]
    refine ⟨h1, fun q => ⟨(h2 q).1, fun j hj => ?_⟩, h3, fun j hj => (h4 j hj).trans (r4 j hj), fun a ha hb => (h6 a ha hb).trans (r5 a ha hb)⟩
    by_cases ej : j = k
    · subst ej
      rw [(h2 q).2]
      exact congrArg nI uN_s.symm
    · rw [h5 j ej, (r2 e).2 j (by omega)]
      exact congrArg nI (uN_n ej).symm
  | false =>
    rw [pN_f e]
    have hd := ((r3 e).resolve_left hr0).2
    have eP : pNum S n lo hi s.2.1 = (false, s.2.1, 0) := if_neg (by unfold isD at hd; omega)
    rw [eP] at h1 h2 h3
    exact ⟨h1, fun q => absurd (q.symm.trans e) (by decide), fun _ => h3 rfl, fun j hj => (h4 j hj).trans (r4 j hj), fun a ha hb => (h6 a ha hb).trans (r5 a ha hb)⟩

theorem s_readWord {G : GT} {C : AH} {Q : QT} {X : XT} {t n : Nat} {S : Nat → Nat} {sa va : Nat → Nat} {s v p : Nat} {w : List Nat} (hO : GO G) (hS : TxS C t) (hV : TxV (gI C) t S n) (hX : GX G sa va) (hs : eS G s v w) (hp : p + w.length < 900) (ha : gI C t 2 = nI p) (hq : ∀ (r : Int32) (f : Nat → Nat → Int32), RC f (gI C) t S n (pW S n w (s0 p)) 0 r → Q (some (.int r)) (wI C f)) : Mt G M_X3_readWord [.ref t, .ref s] C Q X := by
  refine Mt_of (by decide) (Nat.le_of_ble_eq_true rfl) ?_
  obtain ⟨k0, g0, g4, k1, n1, k2, n2⟩ := id hS
  obtain ⟨v1, v2, v3⟩ := id hV
  have f0 : fV C 5 t 0 = .ref (t + 1) := congrArg va_rf g0
  have f4 : fV C 5 t 4 = .ref (t + 2) := congrArg va_rf g4
  have f1 : fV C 5 t 1 = .int (nI n) := congrArg Value.int v1
  obtain ⟨a1, a2, a3, a4, a5, a6⟩ := id hs
  have loop : ∀ (m j q : Nat), w.length - j = m → j ≤ w.length → q ≤ p + j → pW S n w (s0 p) = pW S n (w.drop j) (true, q, fun _ => 0) → Ex G M_X3_readWord Q X (mC M_X3_readWord) (mS M_X3_readWord) 2 [(0, .ref t), (1, .ref s), (2, .int (nI j))] [] (wI C (up2 (gI C) t 2 (nI (q)))) := by
    intro m
    induction m using Nat.strongRecOn with
    | _ m ih =>
    intro j q hm hjl hqp hE
    refine x_iload_n dX3_readWord_2 rfl ?_
    refine x_aload_n dX3_readWord_3 rfl ?_
    refine x_callVE (As := []) hO dX3_readWord_4 o_J0_length_8abf5 v_J0_length_8abf5 l_X3_81 ⟨by decide, by decide⟩ a1 ⟨by decide, by decide⟩ rfl rfl (Nat.le_of_ble_eq_true rfl) (m_strLen (C := (wI C (up2 (gI C) t 2 (nI (q))))) hO hX hs ?_)
    dsimp only [Option.toList, List.cons_append, List.nil_append]
    refine x_icmp_ge (tgt := 30) dX3_readWord_7 (by decide) (fun c7 => ?_) (fun c7 => ?_)
    · simp (disch := omega) only [nI_leI] at c7
      refine x_iconst (v := nI 1) dX3_readWord_30 (by decide) ?_
      refine x_iret dX3_readWord_31 rfl (by first | rfl | assumption) ?_
      have e0 : w.drop j = [] := List.drop_eq_nil_of_le (by omega)
      rw [e0] at hE
      have hE : pW S n w (s0 p) = (true, q, fun _ => 0) := hE
      refine hq 1 _ ?_
      rw [hE]
      exact ⟨up2_s, fun _ => ⟨rfl, fun j hj => absurd hj (Nat.not_lt_zero j)⟩, fun h9 => absurd h9 (by simp), fun j hj => up2_n (by omega), fun a h1 h2 => funext fun j => up2_n (by omega)⟩
    · simp (disch := omega) only [nI_leI] at c7
      have hjw : j < w.length := by omega
      have a6j := a6 j
      have hdr : w.drop j = w.getD j 0 :: w.drop (j + 1) := by
        rw [List.drop_eq_getElem_cons hjw, List.getD_eq_getElem?_getD, List.getElem?_eq_getElem hjw]
        rfl
      refine x_aload_n dX3_readWord_10 rfl ?_
      refine x_aload_n dX3_readWord_11 rfl ?_
      refine x_iload_n dX3_readWord_12 rfl ?_
      refine x_callVE (As := [_]) hO dX3_readWord_13 o_J0_charAt_5068e v_J0_charAt_5068e l_X3_86 ⟨by decide, by decide⟩ a1 ⟨by decide, by decide⟩ rfl rfl (Nat.le_of_ble_eq_true rfl) (m_charAt (C := (wI C (up2 (gI C) t 2 (nI (q))))) hO hX hs hjw ?_)
      dsimp only [Option.toList, List.cons_append, List.nil_append]
      refine x_callV (As := [_]) 5 hO dX3_readWord_16 o_X3_readSign v_X3_readSign l_X3_33 ⟨by decide, by decide⟩ (by first | (simp only [gK_wI]; assumption) | assumption) ⟨by decide, by decide⟩ rfl ⟨by decide, by decide⟩ rfl rfl (Nat.le_of_ble_eq_true rfl) (s_readSign (C := (wI C (up2 (gI C) t 2 (nI (q))))) (p := q) hO hS (TxV_at hV) (by omega) up2_s (by omega) (fun h16 => ?_) (fun h16 => ?_))
      · dsimp only [Option.toList, List.cons_append, List.nil_append]
        refine x_if_ne (tgt := 24) dX3_readWord_19 (by decide) (fun c19 => ?_) (fun c19 => ?_)
        · refine x_iinc (v := nI 1) dX3_readWord_24 rfl (by decide) (by decide) ?_
          refine x_goto (tgt := 2) dX3_readWord_27 (by decide) ?_
          simp only [wI_wI, gI_wI, up2_up2]
          refine x_ls [(0, .ref t), (1, .ref s), (2, .int (nI (j + 1)))] ⟨rfl, rfl, (by rw [← nI_add]; rfl), trivial⟩ ?_
          refine ih (m - 1) (by omega) (j + 1) (q + 1) (by omega) (by omega) (by omega) ?_
          rw [hE, hdr]
          show pW S n _ (pC S n (w.getD j 0) _) = _
          unfold pC
          rw [if_pos ⟨rfl, h16⟩]
        · exact absurd c19 (by decide)
      · dsimp only [Option.toList, List.cons_append, List.nil_append]
        refine x_if_ne (tgt := 24) dX3_readWord_19 (by decide) (fun c19 => ?_) (fun c19 => ?_)
        · exact absurd rfl c19
        · refine x_iconst (v := nI 0) dX3_readWord_22 (by decide) ?_
          refine x_iret dX3_readWord_23 rfl (by first | rfl | assumption) ?_
          rw [hdr] at hE
          have hE : pW S n w (s0 p) = pW S n (w.drop (j + 1)) (pC S n (w.getD j 0) (true, q, fun _ => 0)) := hE
          have e1 : pC S n (w.getD j 0) (true, q, fun _ => 0) = (false, q, fun _ => 0) := if_neg fun z => h16 z.2
          rw [e1, pW_f (s := (false, q, fun _ => 0)) rfl] at hE
          refine hq 0 _ ?_
          rw [hE]
          exact ⟨up2_s, fun h9 => absurd h9 (by simp), fun _ => Or.inl rfl, fun j hj => up2_n (by omega), fun a h1 h2 => funext fun j => up2_n (by omega)⟩
  have hC : C = (wI C (up2 (gI C) t 2 (nI (p)))) := by
    have e : up2 (gI C) t 2 (nI p) = gI C := by
      funext a j
      by_cases h : a = t ∧ j = 2
      · rw [h.1, h.2, up2_s, ha]
      · exact up2_n h
    rw [e]
    exact wI_self.symm
  refine x_iconst (v := nI 0) dX3_readWord_0 (by decide) ?_
  refine x_istore_n dX3_readWord_1 (by decide) ?_
  refine x_ls [(0, .ref t), (1, .ref s), (2, .int (nI 0))] ⟨rfl, rfl, rfl, trivial⟩ ?_
  rw [hC]
  exact loop _ 0 p rfl (Nat.zero_le _) (by omega) rfl

def cnt (l : Nat) : Nat := if l = 98 then 5 else if l = 115 then 2 else 1
theorem cI_c {S : Nat → Nat} {n p c : Nat} (hS : ∀ i, i < n → S i < 256) (h : ch S n p = c) (hc : c < 256) : cI S n p = nI c := (cI_eq hS hc).mpr h
theorem s_readCommand {G : GT} {C : AH} {Q : QT} {X : XT} {t n : Nat} {S : Nat → Nat} {sa va : Nat → Nat} {p : Nat} (hO : GO G) (hS : TxS C t) (hV : TxV (gI C) t S n) (hX : GX G sa va) (hp : p ≤ n) (ha : gI C t 2 = nI p) (hq : ∀ (r : Int32) (f : Nat → Nat → Int32), RC f (up2 (gI C) t 3 (cI S n p)) t S n (pCmd S n p) (cnt (ch S n p)) r → Q (some (.int r)) (wI C f)) : Mt G M_X3_readCommand [.ref t] C Q X := by
  refine Mt_of (by decide) (Nat.le_of_ble_eq_true rfl) ?_
  obtain ⟨k0, g0, g4, k1, n1, k2, n2⟩ := id hS
  obtain ⟨v1, v2, v3⟩ := id hV
  have f0 : fV C 5 t 0 = .ref (t + 1) := congrArg va_rf g0
  have f4 : fV C 5 t 4 = .ref (t + 2) := congrArg va_rf g4
  have f1 : fV C 5 t 1 = .int (nI n) := congrArg Value.int v1
  have f2 : fV C 5 t 2 = .int (nI p) := congrArg Value.int ha
  have hag : gI (wI C (up2 (gI C) t 3 (cI S n p))) t 2 = nI p := (up2_n (by omega)).trans ha
  have hVg : TxV (up2 (gI C) t 3 (cI S n p)) t S n := ⟨(up2_n (by omega)).trans v1, v2, fun i hi => ⟨(up2_n (by omega)).trans (v3 i hi).1, (v3 i hi).2⟩⟩
  refine x_aload_n dX3_readCommand_0 rfl ?_
  refine x_aload_n dX3_readCommand_1 rfl ?_
  refine x_aload_n dX3_readCommand_2 rfl ?_
  refine x_get 5 hO dX3_readCommand_3 f_X3_27 (by first | (simp only [gK_wI]; assumption) | assumption) ⟨by decide, by decide⟩ (v := .int (nI p)) f2 ?_
  refine x_callV (As := [_]) 5 hO dX3_readCommand_6 o_X3_signAt v_X3_signAt l_X3_61 ⟨by decide, by decide⟩ (by first | (simp only [gK_wI]; assumption) | assumption) ⟨by decide, by decide⟩ rfl ⟨by decide, by decide⟩ rfl rfl (Nat.le_of_ble_eq_true rfl) (s_signAt hO hS hV (by omega) ?_)
  dsimp only [Option.toList, List.cons_append, List.nil_append]
  refine x_putI 5 hO dX3_readCommand_9 f_X3_41 (fw_5_3 _) (by first | (simp only [gK_wI]; assumption) | assumption) ⟨by decide, by decide⟩ rfl rfl ?_
  refine x_aload_n dX3_readCommand_12 rfl ?_
  refine x_get 5 hO dX3_readCommand_13 f_X3_41 (by first | (simp only [gK_wI]; assumption) | assumption) ⟨by decide, by decide⟩ (v := .int (cI S n p)) (congrArg Value.int up2_s) ?_
  skip
  by_cases hb : ch S n p = 98
  · have hcmd : pCmd S n p = pN S n 0 23 4 (pN S n 0 23 3 (pN S n 1 400 2 (pN S n 0 400 1 (pN S n 10 400 0 (pW S n [98, 117, 115] (s0 p)))))) := by
      unfold pCmd
      rw [if_pos hb]
    have hcnt : cnt (ch S n p) = 5 := by rw [hb]; rfl
    have le0 : (pW S n [98, 117, 115] (s0 p)).2.1 ≤ n := (pW_le (by decide) hp).2
    have le1 : (pN S n 10 400 0 (pW S n [98, 117, 115] (s0 p))).2.1 ≤ n := (pN_le le0).2
    have le2 : (pN S n 0 400 1 (pN S n 10 400 0 (pW S n [98, 117, 115] (s0 p)))).2.1 ≤ n := (pN_le le1).2
    have le3 : (pN S n 1 400 2 (pN S n 0 400 1 (pN S n 10 400 0 (pW S n [98, 117, 115] (s0 p))))).2.1 ≤ n := (pN_le le2).2
    have le4 : (pN S n 0 23 3 (pN S n 1 400 2 (pN S n 0 400 1 (pN S n 10 400 0 (pW S n [98, 117, 115] (s0 p)))))).2.1 ≤ n := (pN_le le3).2
    refine x_lookup (off := 44) (tgt := 60) dX3_readCommand_16 rfl (by rw [cI_c (fun i hi => (v3 i hi).2) hb (by decide)]; decide +kernel) (by decide) ?_
    refine x_aload_n dX3_readCommand_60 rfl ?_
    refine x_ldcS (hX.2.1 0 _ _ _ rfl) dX3_readCommand_61 ?_
    refine x_callV (As := [_]) 5 hO dX3_readCommand_63 o_X3_readWord v_X3_readWord l_X3_67 ⟨by decide, by decide⟩ (by first | (simp only [gK_wI]; assumption) | assumption) ⟨by decide, by decide⟩ rfl ⟨by decide, by decide⟩ rfl rfl (Nat.le_of_ble_eq_true rfl) (s_readWord (C := (wI C (up2 (gI C) t 3 (cI S n p)))) hO hS hVg hX (GX_S hX 0 (by decide)) (by show p + 3 < 900; omega) hag (fun r63 f63 h63 => ?_))
    dsimp only [Option.toList, List.cons_append, List.nil_append]
    refine x_if_eq (tgt := 132) dX3_readCommand_66 (by decide) (fun c66 => ?_) (fun c66 => ?_)
    · have hz := RC_s (RC_s (RC_s (RC_s (RC_s (h63) c66 10 400 0 1) c66 0 400 1 2) c66 1 400 2 3) c66 0 23 3 4) c66 0 23 4 5
      refine x_iconst (v := nI 0) dX3_readCommand_132 (by decide) ?_
      refine x_iret dX3_readCommand_133 rfl rfl ?_
      refine hq 0 _ ?_
      rw [hcmd, hcnt]
      rw [c66] at hz
      exact hz
    · refine x_aload_n dX3_readCommand_69 rfl ?_
      refine x_iconst (v := nI 0) dX3_readCommand_70 (by decide) ?_
      refine x_bipush (v := nI 10) dX3_readCommand_71 (by decide) ?_
      refine x_sipush (v := nI 400) dX3_readCommand_73 (by decide) ?_
      refine x_callV (As := [_, _, _]) 5 hO dX3_readCommand_76 o_X3_readNumber v_X3_readNumber l_X3_71 ⟨by decide, by decide⟩ (by first | (simp only [gK_wI]; assumption) | assumption) ⟨by decide, by decide⟩ rfl ⟨by decide, by decide⟩ rfl rfl (Nat.le_of_ble_eq_true rfl) (s_rn (C := wI C f63) (s := pW S n [98, 117, 115] (s0 p)) (r0 := r63) hO hS (TxV_RC h63 hVg) h63 c66 (le0) (by decide) (by decide) (by decide) (fun r76 f76 h76 => ?_))
      dsimp only [Option.toList, List.cons_append, List.nil_append]
      refine x_if_eq (tgt := 132) dX3_readCommand_79 (by decide) (fun c79 => ?_) (fun c79 => ?_)
      · have hz := RC_s (RC_s (RC_s (RC_s (h76) c79 0 400 1 2) c79 1 400 2 3) c79 0 23 3 4) c79 0 23 4 5
        refine x_iconst (v := nI 0) dX3_readCommand_132 (by decide) ?_
        refine x_iret dX3_readCommand_133 rfl rfl ?_
        refine hq 0 _ ?_
        rw [hcmd, hcnt]
        rw [c79] at hz
        exact hz
      · refine x_aload_n dX3_readCommand_82 rfl ?_
        refine x_iconst (v := nI 1) dX3_readCommand_83 (by decide) ?_
        refine x_iconst (v := nI 0) dX3_readCommand_84 (by decide) ?_
        refine x_sipush (v := nI 400) dX3_readCommand_85 (by decide) ?_
        refine x_callV (As := [_, _, _]) 5 hO dX3_readCommand_88 o_X3_readNumber v_X3_readNumber l_X3_71 ⟨by decide, by decide⟩ (by first | (simp only [gK_wI]; assumption) | assumption) ⟨by decide, by decide⟩ rfl ⟨by decide, by decide⟩ rfl rfl (Nat.le_of_ble_eq_true rfl) (s_rn (C := wI C f76) (s := pN S n 10 400 0 (pW S n [98, 117, 115] (s0 p))) (r0 := r76) hO hS (TxV_RC h76 hVg) h76 c79 (le1) (by decide) (by decide) (by decide) (fun r88 f88 h88 => ?_))
        dsimp only [Option.toList, List.cons_append, List.nil_append]
        refine x_if_eq (tgt := 132) dX3_readCommand_91 (by decide) (fun c91 => ?_) (fun c91 => ?_)
        · have hz := RC_s (RC_s (RC_s (h88) c91 1 400 2 3) c91 0 23 3 4) c91 0 23 4 5
          refine x_iconst (v := nI 0) dX3_readCommand_132 (by decide) ?_
          refine x_iret dX3_readCommand_133 rfl rfl ?_
          refine hq 0 _ ?_
          rw [hcmd, hcnt]
          rw [c91] at hz
          exact hz
        · refine x_aload_n dX3_readCommand_94 rfl ?_
          refine x_iconst (v := nI 2) dX3_readCommand_95 (by decide) ?_
          refine x_iconst (v := nI 1) dX3_readCommand_96 (by decide) ?_
          refine x_sipush (v := nI 400) dX3_readCommand_97 (by decide) ?_
          refine x_callV (As := [_, _, _]) 5 hO dX3_readCommand_100 o_X3_readNumber v_X3_readNumber l_X3_71 ⟨by decide, by decide⟩ (by first | (simp only [gK_wI]; assumption) | assumption) ⟨by decide, by decide⟩ rfl ⟨by decide, by decide⟩ rfl rfl (Nat.le_of_ble_eq_true rfl) (s_rn (C := wI C f88) (s := pN S n 0 400 1 (pN S n 10 400 0 (pW S n [98, 117, 115] (s0 p)))) (r0 := r88) hO hS (TxV_RC h88 hVg) h88 c91 (le2) (by decide) (by decide) (by decide) (fun r100 f100 h100 => ?_))
          dsimp only [Option.toList, List.cons_append, List.nil_append]
          refine x_if_eq (tgt := 132) dX3_readCommand_103 (by decide) (fun c103 => ?_) (fun c103 => ?_)
          · have hz := RC_s (RC_s (h100) c103 0 23 3 4) c103 0 23 4 5
            refine x_iconst (v := nI 0) dX3_readCommand_132 (by decide) ?_
            refine x_iret dX3_readCommand_133 rfl rfl ?_
            refine hq 0 _ ?_
            rw [hcmd, hcnt]
            rw [c103] at hz
            exact hz
          · refine x_aload_n dX3_readCommand_106 rfl ?_
            refine x_iconst (v := nI 3) dX3_readCommand_107 (by decide) ?_
            refine x_iconst (v := nI 0) dX3_readCommand_108 (by decide) ?_
            refine x_bipush (v := nI 23) dX3_readCommand_109 (by decide) ?_
            refine x_callV (As := [_, _, _]) 5 hO dX3_readCommand_111 o_X3_readNumber v_X3_readNumber l_X3_71 ⟨by decide, by decide⟩ (by first | (simp only [gK_wI]; assumption) | assumption) ⟨by decide, by decide⟩ rfl ⟨by decide, by decide⟩ rfl rfl (Nat.le_of_ble_eq_true rfl) (s_rn (C := wI C f100) (s := pN S n 1 400 2 (pN S n 0 400 1 (pN S n 10 400 0 (pW S n [98, 117, 115] (s0 p))))) (r0 := r100) hO hS (TxV_RC h100 hVg) h100 c103 (le3) (by decide) (by decide) (by decide) (fun r111 f111 h111 => ?_))
            dsimp only [Option.toList, List.cons_append, List.nil_append]
            refine x_if_eq (tgt := 132) dX3_readCommand_114 (by decide) (fun c114 => ?_) (fun c114 => ?_)
            · have hz := RC_s (h111) c114 0 23 4 5
              refine x_iconst (v := nI 0) dX3_readCommand_132 (by decide) ?_
              refine x_iret dX3_readCommand_133 rfl rfl ?_
              refine hq 0 _ ?_
              rw [hcmd, hcnt]
              rw [c114] at hz
              exact hz
            · refine x_aload_n dX3_readCommand_117 rfl ?_
              refine x_iconst (v := nI 4) dX3_readCommand_118 (by decide) ?_
              refine x_iconst (v := nI 0) dX3_readCommand_119 (by decide) ?_
              refine x_bipush (v := nI 23) dX3_readCommand_120 (by decide) ?_
              refine x_callV (As := [_, _, _]) 5 hO dX3_readCommand_122 o_X3_readNumber v_X3_readNumber l_X3_71 ⟨by decide, by decide⟩ (by first | (simp only [gK_wI]; assumption) | assumption) ⟨by decide, by decide⟩ rfl ⟨by decide, by decide⟩ rfl rfl (Nat.le_of_ble_eq_true rfl) (s_rn (C := wI C f111) (s := pN S n 0 23 3 (pN S n 1 400 2 (pN S n 0 400 1 (pN S n 10 400 0 (pW S n [98, 117, 115] (s0 p)))))) (r0 := r111) hO hS (TxV_RC h111 hVg) h111 c114 (le4) (by decide) (by decide) (by decide) (fun r122 f122 h122 => ?_))
              dsimp only [Option.toList, List.cons_append, List.nil_append]
              refine x_if_eq (tgt := 132) dX3_readCommand_125 (by decide) (fun c125 => ?_) (fun c125 => ?_)
              · have hz := h122
                refine x_iconst (v := nI 0) dX3_readCommand_132 (by decide) ?_
                refine x_iret dX3_readCommand_133 rfl rfl ?_
                refine hq 0 _ ?_
                rw [hcmd, hcnt]
                rw [c125] at hz
                exact hz
              · refine x_iconst (v := nI 1) dX3_readCommand_128 (by decide) ?_
                refine x_goto (tgt := 133) dX3_readCommand_129 (by decide) ?_
                refine x_iret dX3_readCommand_133 rfl (by first | rfl | assumption) ?_
                refine hq 1 _ ?_
                rw [hcmd, hcnt]
                exact (RC_1 h122 c125) ▸ h122
  by_cases hp9 : ch S n p = 112
  · have hcmd : pCmd S n p = pN S n 1 50 0 (pW S n [112, 108, 117, 103] (s0 p)) := by
      unfold pCmd
      rw [if_neg hb, if_pos hp9]
    have hcnt : cnt (ch S n p) = 1 := by rw [hp9]; rfl
    have le0 : (pW S n [112, 108, 117, 103] (s0 p)).2.1 ≤ n := (pW_le (by decide) hp).2
    refine x_lookup (off := 118) (tgt := 134) dX3_readCommand_16 rfl (by rw [cI_c (fun i hi => (v3 i hi).2) hp9 (by decide)]; decide +kernel) (by decide) ?_
    refine x_aload_n dX3_readCommand_134 rfl ?_
    refine x_ldcS (hX.2.1 1 _ _ _ rfl) dX3_readCommand_135 ?_
    refine x_callV (As := [_]) 5 hO dX3_readCommand_137 o_X3_readWord v_X3_readWord l_X3_67 ⟨by decide, by decide⟩ (by first | (simp only [gK_wI]; assumption) | assumption) ⟨by decide, by decide⟩ rfl ⟨by decide, by decide⟩ rfl rfl (Nat.le_of_ble_eq_true rfl) (s_readWord (C := (wI C (up2 (gI C) t 3 (cI S n p)))) hO hS hVg hX (GX_S hX 1 (by decide)) (by show p + 4 < 900; omega) hag (fun r137 f137 h137 => ?_))
    dsimp only [Option.toList, List.cons_append, List.nil_append]
    refine x_if_eq (tgt := 158) dX3_readCommand_140 (by decide) (fun c140 => ?_) (fun c140 => ?_)
    · have hz := RC_s (h137) c140 1 50 0 1
      refine x_iconst (v := nI 0) dX3_readCommand_158 (by decide) ?_
      refine x_iret dX3_readCommand_159 rfl rfl ?_
      refine hq 0 _ ?_
      rw [hcmd, hcnt]
      rw [c140] at hz
      exact hz
    · refine x_aload_n dX3_readCommand_143 rfl ?_
      refine x_iconst (v := nI 0) dX3_readCommand_144 (by decide) ?_
      refine x_iconst (v := nI 1) dX3_readCommand_145 (by decide) ?_
      refine x_bipush (v := nI 50) dX3_readCommand_146 (by decide) ?_
      refine x_callV (As := [_, _, _]) 5 hO dX3_readCommand_148 o_X3_readNumber v_X3_readNumber l_X3_71 ⟨by decide, by decide⟩ (by first | (simp only [gK_wI]; assumption) | assumption) ⟨by decide, by decide⟩ rfl ⟨by decide, by decide⟩ rfl rfl (Nat.le_of_ble_eq_true rfl) (s_rn (C := wI C f137) (s := pW S n [112, 108, 117, 103] (s0 p)) (r0 := r137) hO hS (TxV_RC h137 hVg) h137 c140 (le0) (by decide) (by decide) (by decide) (fun r148 f148 h148 => ?_))
      dsimp only [Option.toList, List.cons_append, List.nil_append]
      refine x_if_eq (tgt := 158) dX3_readCommand_151 (by decide) (fun c151 => ?_) (fun c151 => ?_)
      · have hz := h148
        refine x_iconst (v := nI 0) dX3_readCommand_158 (by decide) ?_
        refine x_iret dX3_readCommand_159 rfl rfl ?_
        refine hq 0 _ ?_
        rw [hcmd, hcnt]
        rw [c151] at hz
        exact hz
      · refine x_iconst (v := nI 1) dX3_readCommand_154 (by decide) ?_
        refine x_goto (tgt := 159) dX3_readCommand_155 (by decide) ?_
        refine x_iret dX3_readCommand_159 rfl (by first | rfl | assumption) ?_
        refine hq 1 _ ?_
        rw [hcmd, hcnt]
        exact (RC_1 h148 c151) ▸ h148
  by_cases hr : ch S n p = 114
  · have hcmd : pCmd S n p = pN S n 1 48 0 (pW S n [114, 117, 110] (s0 p)) := by
      unfold pCmd
      rw [if_neg hb, if_neg hp9, if_pos hr]
    have hcnt : cnt (ch S n p) = 1 := by rw [hr]; rfl
    have le0 : (pW S n [114, 117, 110] (s0 p)).2.1 ≤ n := (pW_le (by decide) hp).2
    refine x_lookup (off := 144) (tgt := 160) dX3_readCommand_16 rfl (by rw [cI_c (fun i hi => (v3 i hi).2) hr (by decide)]; decide +kernel) (by decide) ?_
    refine x_aload_n dX3_readCommand_160 rfl ?_
    refine x_ldcS (hX.2.1 2 _ _ _ rfl) dX3_readCommand_161 ?_
    refine x_callV (As := [_]) 5 hO dX3_readCommand_163 o_X3_readWord v_X3_readWord l_X3_67 ⟨by decide, by decide⟩ (by first | (simp only [gK_wI]; assumption) | assumption) ⟨by decide, by decide⟩ rfl ⟨by decide, by decide⟩ rfl rfl (Nat.le_of_ble_eq_true rfl) (s_readWord (C := (wI C (up2 (gI C) t 3 (cI S n p)))) hO hS hVg hX (GX_S hX 2 (by decide)) (by show p + 3 < 900; omega) hag (fun r163 f163 h163 => ?_))
    dsimp only [Option.toList, List.cons_append, List.nil_append]
    refine x_if_eq (tgt := 184) dX3_readCommand_166 (by decide) (fun c166 => ?_) (fun c166 => ?_)
    · have hz := RC_s (h163) c166 1 48 0 1
      refine x_iconst (v := nI 0) dX3_readCommand_184 (by decide) ?_
      refine x_iret dX3_readCommand_185 rfl rfl ?_
      refine hq 0 _ ?_
      rw [hcmd, hcnt]
      rw [c166] at hz
      exact hz
    · refine x_aload_n dX3_readCommand_169 rfl ?_
      refine x_iconst (v := nI 0) dX3_readCommand_170 (by decide) ?_
      refine x_iconst (v := nI 1) dX3_readCommand_171 (by decide) ?_
      refine x_bipush (v := nI 48) dX3_readCommand_172 (by decide) ?_
      refine x_callV (As := [_, _, _]) 5 hO dX3_readCommand_174 o_X3_readNumber v_X3_readNumber l_X3_71 ⟨by decide, by decide⟩ (by first | (simp only [gK_wI]; assumption) | assumption) ⟨by decide, by decide⟩ rfl ⟨by decide, by decide⟩ rfl rfl (Nat.le_of_ble_eq_true rfl) (s_rn (C := wI C f163) (s := pW S n [114, 117, 110] (s0 p)) (r0 := r163) hO hS (TxV_RC h163 hVg) h163 c166 (le0) (by decide) (by decide) (by decide) (fun r174 f174 h174 => ?_))
      dsimp only [Option.toList, List.cons_append, List.nil_append]
      refine x_if_eq (tgt := 184) dX3_readCommand_177 (by decide) (fun c177 => ?_) (fun c177 => ?_)
      · have hz := h174
        refine x_iconst (v := nI 0) dX3_readCommand_184 (by decide) ?_
        refine x_iret dX3_readCommand_185 rfl rfl ?_
        refine hq 0 _ ?_
        rw [hcmd, hcnt]
        rw [c177] at hz
        exact hz
      · refine x_iconst (v := nI 1) dX3_readCommand_180 (by decide) ?_
        refine x_goto (tgt := 185) dX3_readCommand_181 (by decide) ?_
        refine x_iret dX3_readCommand_185 rfl (by first | rfl | assumption) ?_
        refine hq 1 _ ?_
        rw [hcmd, hcnt]
        exact (RC_1 h174 c177) ▸ h174
  by_cases hs : ch S n p = 115
  · have hcmd : pCmd S n p = pN S n 0 999 1 (pN S n 0 5 0 (pW S n [115, 101, 116] (s0 p))) := by
      unfold pCmd
      rw [if_neg hb, if_neg hp9, if_neg hr, if_pos hs]
    have hcnt : cnt (ch S n p) = 2 := by rw [hs]; rfl
    have le0 : (pW S n [115, 101, 116] (s0 p)).2.1 ≤ n := (pW_le (by decide) hp).2
    have le1 : (pN S n 0 5 0 (pW S n [115, 101, 116] (s0 p))).2.1 ≤ n := (pN_le le0).2
    refine x_lookup (off := 170) (tgt := 186) dX3_readCommand_16 rfl (by rw [cI_c (fun i hi => (v3 i hi).2) hs (by decide)]; decide +kernel) (by decide) ?_
    refine x_aload_n dX3_readCommand_186 rfl ?_
    refine x_ldcS (hX.2.1 3 _ _ _ rfl) dX3_readCommand_187 ?_
    refine x_callV (As := [_]) 5 hO dX3_readCommand_189 o_X3_readWord v_X3_readWord l_X3_67 ⟨by decide, by decide⟩ (by first | (simp only [gK_wI]; assumption) | assumption) ⟨by decide, by decide⟩ rfl ⟨by decide, by decide⟩ rfl rfl (Nat.le_of_ble_eq_true rfl) (s_readWord (C := (wI C (up2 (gI C) t 3 (cI S n p)))) hO hS hVg hX (GX_S hX 3 (by decide)) (by show p + 3 < 900; omega) hag (fun r189 f189 h189 => ?_))
    dsimp only [Option.toList, List.cons_append, List.nil_append]
    refine x_if_eq (tgt := 221) dX3_readCommand_192 (by decide) (fun c192 => ?_) (fun c192 => ?_)
    · have hz := RC_s (RC_s (h189) c192 0 5 0 1) c192 0 999 1 2
      refine x_iconst (v := nI 0) dX3_readCommand_221 (by decide) ?_
      refine x_iret dX3_readCommand_222 rfl rfl ?_
      refine hq 0 _ ?_
      rw [hcmd, hcnt]
      rw [c192] at hz
      exact hz
    · refine x_aload_n dX3_readCommand_195 rfl ?_
      refine x_iconst (v := nI 0) dX3_readCommand_196 (by decide) ?_
      refine x_iconst (v := nI 0) dX3_readCommand_197 (by decide) ?_
      refine x_iconst (v := nI 5) dX3_readCommand_198 (by decide) ?_
      refine x_callV (As := [_, _, _]) 5 hO dX3_readCommand_199 o_X3_readNumber v_X3_readNumber l_X3_71 ⟨by decide, by decide⟩ (by first | (simp only [gK_wI]; assumption) | assumption) ⟨by decide, by decide⟩ rfl ⟨by decide, by decide⟩ rfl rfl (Nat.le_of_ble_eq_true rfl) (s_rn (C := wI C f189) (s := pW S n [115, 101, 116] (s0 p)) (r0 := r189) hO hS (TxV_RC h189 hVg) h189 c192 (le0) (by decide) (by decide) (by decide) (fun r199 f199 h199 => ?_))
      dsimp only [Option.toList, List.cons_append, List.nil_append]
      refine x_if_eq (tgt := 221) dX3_readCommand_202 (by decide) (fun c202 => ?_) (fun c202 => ?_)
      · have hz := RC_s (h199) c202 0 999 1 2
        refine x_iconst (v := nI 0) dX3_readCommand_221 (by decide) ?_
        refine x_iret dX3_readCommand_222 rfl rfl ?_
        refine hq 0 _ ?_
        rw [hcmd, hcnt]
        rw [c202] at hz
        exact hz
      · refine x_aload_n dX3_readCommand_205 rfl ?_
        refine x_iconst (v := nI 1) dX3_readCommand_206 (by decide) ?_
        refine x_iconst (v := nI 0) dX3_readCommand_207 (by decide) ?_
        refine x_sipush (v := nI 999) dX3_readCommand_208 (by decide) ?_
        refine x_callV (As := [_, _, _]) 5 hO dX3_readCommand_211 o_X3_readNumber v_X3_readNumber l_X3_71 ⟨by decide, by decide⟩ (by first | (simp only [gK_wI]; assumption) | assumption) ⟨by decide, by decide⟩ rfl ⟨by decide, by decide⟩ rfl rfl (Nat.le_of_ble_eq_true rfl) (s_rn (C := wI C f199) (s := pN S n 0 5 0 (pW S n [115, 101, 116] (s0 p))) (r0 := r199) hO hS (TxV_RC h199 hVg) h199 c202 (le1) (by decide) (by decide) (by decide) (fun r211 f211 h211 => ?_))
        dsimp only [Option.toList, List.cons_append, List.nil_append]
        refine x_if_eq (tgt := 221) dX3_readCommand_214 (by decide) (fun c214 => ?_) (fun c214 => ?_)
        · have hz := h211
          refine x_iconst (v := nI 0) dX3_readCommand_221 (by decide) ?_
          refine x_iret dX3_readCommand_222 rfl rfl ?_
          refine hq 0 _ ?_
          rw [hcmd, hcnt]
          rw [c214] at hz
          exact hz
        · refine x_iconst (v := nI 1) dX3_readCommand_217 (by decide) ?_
          refine x_goto (tgt := 222) dX3_readCommand_218 (by decide) ?_
          refine x_iret dX3_readCommand_222 rfl (by first | rfl | assumption) ?_
          refine hq 1 _ ?_
          rw [hcmd, hcnt]
          exact (RC_1 h211 c214) ▸ h211
  have hne : ∀ c, c < 256 → ch S n p ≠ c → ¬ cI S n p = nI c := fun c hc h e => h ((cI_eq (fun i hi => (v3 i hi).2) hc).mp e)
  refine x_lookup (off := 207) (tgt := 223) dX3_readCommand_16 rfl (by
    show Op.lookupswitch.offset [(98, 44), (112, 118), (114, 144), (115, 170)] 207 (cI S n p).toInt = 207
    rw [lv_osw (hne 98 (by decide) hb) (by decide +kernel), lv_osw (hne 112 (by decide) hp9) (by decide +kernel), lv_osw (hne 114 (by decide) hr) (by decide +kernel), lv_osw (hne 115 (by decide) hs) (by decide +kernel)]
    rfl) (by decide) ?_
  refine x_iconst (v := nI 0) dX3_readCommand_223 (by decide) ?_
  refine x_iret dX3_readCommand_224 rfl (by first | rfl | assumption) ?_
  have hcmd : pCmd S n p = (false, p, fun _ => 0) := by
    unfold pCmd
    rw [if_neg hb, if_neg hp9, if_neg hr, if_neg hs]
  refine hq 0 _ ?_
  rw [hcmd]
  exact ⟨hag, fun h9 => absurd h9 (by simp), fun _ => Or.inl rfl, fun _ _ => rfl, fun _ _ _ => rfl⟩

