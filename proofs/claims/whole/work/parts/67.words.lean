/-! the reference: commands *)-/
/-- what a command may change *)-/
def FT (f h : Nat → Nat → Int32) (m : Nat) : Prop := (∀ a, a ≠ m → a ≠ m + 2 → a ≠ m + 3 → (a < m + 9 ∨ m + 14 ≤ a) → f a = h a) ∧ ∀ j, j ≠ 3 → j ≠ 4 → j ≠ 5 → f m j = h m j
theorem FT_r {f : Nat → Nat → Int32} {m : Nat} : FT f f m := ⟨fun _ _ _ _ _ => rfl, fun _ _ _ _ => rfl⟩
theorem FT_t {f h k : Nat → Nat → Int32} {m : Nat} (a : FT f h m) (b : FT h k m) : FT f k m := ⟨fun x q1 q2 q3 q4 => (a.1 x q1 q2 q3 q4).trans (b.1 x q1 q2 q3 q4), fun j q1 q2 q3 => (a.2 j q1 q2 q3).trans (b.2 j q1 q2 q3)⟩
theorem FT_f {f h : Nat → Nat → Int32} {m : Nat} (a : TF f h m) : FT f h m := ⟨fun x q1 _ _ _ => funext fun j => a x j (fun q => q1 q.1), fun j q1 q2 _ => a m j (fun q => q.2.elim q1 q2)⟩
theorem FT_3 {h : Nat → Nat → Int32} {m j : Nat} {v : Int32} : FT (up2 h (m + 3) j v) h m := ⟨fun x _ _ q3 _ => up2_f q3, fun j _ _ _ => congrFun (up2_f (by omega)) j⟩
theorem FT_2 {f h : Nat → Nat → Int32} {m : Nat} (a : ∀ x, x ≠ m + 2 → x < m + 9 ∨ m + 14 ≤ x → f x = h x) : FT f h m := ⟨fun x _ q2 _ q4 => a x q2 q4, fun j _ _ _ => congrFun (a m (by omega) (by omega)) j⟩
theorem FT_5 {f h : Nat → Nat → Int32} {m : Nat} (a : ∀ x j, ¬ (x = m ∧ j = 5) → f x j = h x j) : FT f h m := ⟨fun x q1 _ _ _ => funext fun j => a x j (fun q => q1 q.1), fun j _ _ q3 => a m j (fun q => q3 q.2)⟩
theorem TM_of {f h : Nat → Nat → Int32} {m n p : Nat} {S : Nat → Nat} {g : Bool} (t : TM h m S n p g) (e2 : f m 2 = h m 2) (e3 : f m 3 = h m 3) (e4 : f m 4 = h m 4) (e : f (m + 1) = h (m + 1)) : TM f m S n p g := ⟨e2.trans t.1, fun i hi => (congrFun e i).trans (t.2.1 i hi), e3.trans t.2.2.1, e4.trans t.2.2.2⟩
theorem TM_3 {h : Nat → Nat → Int32} {m n p j : Nat} {S : Nat → Nat} {g : Bool} {v : Int32} (t : TM h m S n p g) : TM (up2 h (m + 3) j v) m S n p g := TM_of t (up2_n (by omega)) (up2_n (by omega)) (up2_n (by omega)) (up2_f (by omega))
theorem TM_5 {f h : Nat → Nat → Int32} {m n p : Nat} {S : Nat → Nat} {g : Bool} (t : TM h m S n p g) (a : ∀ x j, ¬ (x = m ∧ j = 5) → f x j = h x j) : TM f m S n p g := TM_of t (a m 2 (by omega)) (a m 3 (by omega)) (a m 4 (by omega)) (funext fun j => a (m + 1) j (by omega))
theorem TM_2 {f h : Nat → Nat → Int32} {m n p : Nat} {S : Nat → Nat} {g : Bool} (t : TM h m S n p g) (a : ∀ x, x ≠ m + 2 → x < m + 9 ∨ m + 14 ≤ x → f x = h x) : TM f m S n p g := TM_of t (congrFun (a m (by omega) (by omega)) 2) (congrFun (a m (by omega) (by omega)) 3) (congrFun (a m (by omega) (by omega)) 4) (a (m + 1) (by omega) (by omega))
theorem r_goes {G : GT} {C : AH} {Q : QT} {X : XT} {m l : Nat} {g c : Bool} {z : Int32} (hO : GO G) (hM : MdS C m) (h4 : gI C m 4 = (if g = true then 1 else 0)) (h5 : gI C m 5 = nI l) (hz : z = (if c = true then 1 else 0)) (hq : ∀ (r : Int32) (f : Nat → Nat → Int32), r = (if (g && c) = true then 1 else 0) → f m 5 = nI (if (g && !c) = true then l + 1 else l) → (∀ a j, ¬ (a = m ∧ j = 5) → f a j = gI C a j) → Q (some (.int r)) (wI C f)) : Mt G M_X5_goes [.ref m, .int z] C Q X := by
  refine Mt_of (by decide) (Nat.le_of_ble_eq_true rfl) ?_
  obtain ⟨hm0, ⟨g1, g6, g7, g8, g9, g10, g12, g13, g14, g15, g16, g17, g18⟩, k1, k2, k3, k4, k5, k6, k7, k8, k9, k10, k11, k12, k13, hmz⟩ := id hM
  subst hz
  rcases g with _ | _ <;> rcases c with _ | _
  · have x4 : gI C m 4 = 0 := h4
    change Ex G M_X5_goes Q X (mC M_X5_goes) (mS M_X5_goes) 0 (lv_args 0 [.ref m, .int 0]) [] C
    refine x_aload_n dX5_goes_0 rfl ?_
    refine x_dup dX5_goes_1 rfl ?_
    refine x_get 7 hO dX5_goes_2 f_X5_164 (by first | (simp only [gK_wI]; assumption) | assumption) ⟨by decide, by decide⟩ (v := .int (nI l)) (congrArg Value.int h5) ?_
    refine x_aload_n dX5_goes_5 rfl ?_
    refine x_get 7 hO dX5_goes_6 f_X5_143 (by first | (simp only [gK_wI]; assumption) | assumption) ⟨by decide, by decide⟩ (v := .int 0) (congrArg Value.int x4) ?_
    refine x_if_eq (tgt := 20) dX5_goes_9 (by decide) (fun c9 => ?_) (fun c9 => ?_)
    · refine x_iconst (v := nI 0) dX5_goes_20 (by decide) ?_
      refine x_iadd dX5_goes_21 ?_
      refine x_putI 7 hO dX5_goes_22 f_X5_164 (fw_7_5 _) (by first | (simp only [gK_wI]; assumption) | assumption) ⟨by decide, by decide⟩ rfl rfl ?_
      refine x_aload_n dX5_goes_25 rfl ?_
      refine x_get 7 hO dX5_goes_26 f_X5_143 (by first | (simp only [gK_wI]; assumption) | assumption) ⟨by decide, by decide⟩ (v := .int 0) (congrArg Value.int ((up2_n (by omega)).trans x4)) ?_
      refine x_if_eq (tgt := 40) dX5_goes_29 (by decide) (fun c29 => ?_) (fun c29 => ?_)
      · refine x_iconst (v := nI 0) dX5_goes_40 (by decide) ?_
        refine x_iret dX5_goes_41 rfl (by first | rfl | assumption) ?_
        try simp only [wI_wI, gI_wI]
        refine hq _ _ rfl ?_ (fun a j h => up2_n h)
        rw [up2_s]
        exact nI_add l 0
      · exact absurd rfl c29
    · exact absurd rfl c9
  · have x4 : gI C m 4 = 0 := h4
    change Ex G M_X5_goes Q X (mC M_X5_goes) (mS M_X5_goes) 0 (lv_args 0 [.ref m, .int 1]) [] C
    refine x_aload_n dX5_goes_0 rfl ?_
    refine x_dup dX5_goes_1 rfl ?_
    refine x_get 7 hO dX5_goes_2 f_X5_164 (by first | (simp only [gK_wI]; assumption) | assumption) ⟨by decide, by decide⟩ (v := .int (nI l)) (congrArg Value.int h5) ?_
    refine x_aload_n dX5_goes_5 rfl ?_
    refine x_get 7 hO dX5_goes_6 f_X5_143 (by first | (simp only [gK_wI]; assumption) | assumption) ⟨by decide, by decide⟩ (v := .int 0) (congrArg Value.int x4) ?_
    refine x_if_eq (tgt := 20) dX5_goes_9 (by decide) (fun c9 => ?_) (fun c9 => ?_)
    · refine x_iconst (v := nI 0) dX5_goes_20 (by decide) ?_
      refine x_iadd dX5_goes_21 ?_
      refine x_putI 7 hO dX5_goes_22 f_X5_164 (fw_7_5 _) (by first | (simp only [gK_wI]; assumption) | assumption) ⟨by decide, by decide⟩ rfl rfl ?_
      refine x_aload_n dX5_goes_25 rfl ?_
      refine x_get 7 hO dX5_goes_26 f_X5_143 (by first | (simp only [gK_wI]; assumption) | assumption) ⟨by decide, by decide⟩ (v := .int 0) (congrArg Value.int ((up2_n (by omega)).trans x4)) ?_
      refine x_if_eq (tgt := 40) dX5_goes_29 (by decide) (fun c29 => ?_) (fun c29 => ?_)
      · refine x_iconst (v := nI 0) dX5_goes_40 (by decide) ?_
        refine x_iret dX5_goes_41 rfl (by first | rfl | assumption) ?_
        try simp only [wI_wI, gI_wI]
        refine hq _ _ rfl ?_ (fun a j h => up2_n h)
        rw [up2_s]
        exact nI_add l 0
      · exact absurd rfl c29
    · exact absurd rfl c9
  · have x4 : gI C m 4 = 1 := h4
    change Ex G M_X5_goes Q X (mC M_X5_goes) (mS M_X5_goes) 0 (lv_args 0 [.ref m, .int 0]) [] C
    refine x_aload_n dX5_goes_0 rfl ?_
    refine x_dup dX5_goes_1 rfl ?_
    refine x_get 7 hO dX5_goes_2 f_X5_164 (by first | (simp only [gK_wI]; assumption) | assumption) ⟨by decide, by decide⟩ (v := .int (nI l)) (congrArg Value.int h5) ?_
    refine x_aload_n dX5_goes_5 rfl ?_
    refine x_get 7 hO dX5_goes_6 f_X5_143 (by first | (simp only [gK_wI]; assumption) | assumption) ⟨by decide, by decide⟩ (v := .int 1) (congrArg Value.int x4) ?_
    refine x_if_eq (tgt := 20) dX5_goes_9 (by decide) (fun c9 => ?_) (fun c9 => ?_)
    · exact absurd c9 (by decide)
    · refine x_iload_n dX5_goes_12 rfl ?_
      refine x_if_ne (tgt := 20) dX5_goes_13 (by decide) (fun c13 => ?_) (fun c13 => ?_)
      · exact absurd rfl c13
      · refine x_iconst (v := nI 1) dX5_goes_16 (by decide) ?_
        refine x_goto (tgt := 21) dX5_goes_17 (by decide) ?_
        refine x_iadd dX5_goes_21 ?_
        refine x_putI 7 hO dX5_goes_22 f_X5_164 (fw_7_5 _) (by first | (simp only [gK_wI]; assumption) | assumption) ⟨by decide, by decide⟩ rfl rfl ?_
        refine x_aload_n dX5_goes_25 rfl ?_
        refine x_get 7 hO dX5_goes_26 f_X5_143 (by first | (simp only [gK_wI]; assumption) | assumption) ⟨by decide, by decide⟩ (v := .int 1) (congrArg Value.int ((up2_n (by omega)).trans x4)) ?_
        refine x_if_eq (tgt := 40) dX5_goes_29 (by decide) (fun c29 => ?_) (fun c29 => ?_)
        · exact absurd c29 (by decide)
        · refine x_iload_n dX5_goes_32 rfl ?_
          refine x_if_eq (tgt := 40) dX5_goes_33 (by decide) (fun c33 => ?_) (fun c33 => ?_)
          · refine x_iconst (v := nI 0) dX5_goes_40 (by decide) ?_
            refine x_iret dX5_goes_41 rfl (by first | rfl | assumption) ?_
            try simp only [wI_wI, gI_wI]
            refine hq _ _ rfl ?_ (fun a j h => up2_n h)
            rw [up2_s]
            exact nI_add l 1
          · exact absurd rfl c33
  · have x4 : gI C m 4 = 1 := h4
    change Ex G M_X5_goes Q X (mC M_X5_goes) (mS M_X5_goes) 0 (lv_args 0 [.ref m, .int 1]) [] C
    refine x_aload_n dX5_goes_0 rfl ?_
    refine x_dup dX5_goes_1 rfl ?_
    refine x_get 7 hO dX5_goes_2 f_X5_164 (by first | (simp only [gK_wI]; assumption) | assumption) ⟨by decide, by decide⟩ (v := .int (nI l)) (congrArg Value.int h5) ?_
    refine x_aload_n dX5_goes_5 rfl ?_
    refine x_get 7 hO dX5_goes_6 f_X5_143 (by first | (simp only [gK_wI]; assumption) | assumption) ⟨by decide, by decide⟩ (v := .int 1) (congrArg Value.int x4) ?_
    refine x_if_eq (tgt := 20) dX5_goes_9 (by decide) (fun c9 => ?_) (fun c9 => ?_)
    · exact absurd c9 (by decide)
    · refine x_iload_n dX5_goes_12 rfl ?_
      refine x_if_ne (tgt := 20) dX5_goes_13 (by decide) (fun c13 => ?_) (fun c13 => ?_)
      · refine x_iconst (v := nI 0) dX5_goes_20 (by decide) ?_
        refine x_iadd dX5_goes_21 ?_
        refine x_putI 7 hO dX5_goes_22 f_X5_164 (fw_7_5 _) (by first | (simp only [gK_wI]; assumption) | assumption) ⟨by decide, by decide⟩ rfl rfl ?_
        refine x_aload_n dX5_goes_25 rfl ?_
        refine x_get 7 hO dX5_goes_26 f_X5_143 (by first | (simp only [gK_wI]; assumption) | assumption) ⟨by decide, by decide⟩ (v := .int 1) (congrArg Value.int ((up2_n (by omega)).trans x4)) ?_
        refine x_if_eq (tgt := 40) dX5_goes_29 (by decide) (fun c29 => ?_) (fun c29 => ?_)
        · exact absurd c29 (by decide)
        · refine x_iload_n dX5_goes_32 rfl ?_
          refine x_if_eq (tgt := 40) dX5_goes_33 (by decide) (fun c33 => ?_) (fun c33 => ?_)
          · exact absurd c33 (by decide)
          · refine x_iconst (v := nI 1) dX5_goes_36 (by decide) ?_
            refine x_goto (tgt := 41) dX5_goes_37 (by decide) ?_
            refine x_iret dX5_goes_41 rfl (by first | rfl | assumption) ?_
            try simp only [wI_wI, gI_wI]
            refine hq _ _ rfl ?_ (fun a j h => up2_n h)
            rw [up2_s]
            exact nI_add l 0
      · exact absurd c13 (by decide)

theorem r_word3 {G : GT} {C : AH} {Q : QT} {X : XT} {m n : Nat} {S : Nat → Nat} {s : PS} {c2 c3 : Nat} (hO : GO G) (hM : MdS C m) (hT : TM (gI C) m S n s.2.1 s.1) (hn : n ≤ 120) (hS : ∀ i, i < n → S i < 256) (hp : s.2.1 ≤ n) (h2 : c2 < 1000) (h3 : c3 < 1000) (hq : ∀ f : Nat → Nat → Int32, TM f m S n (pW S n [c2, c3] s).2.1 (pW S n [c2, c3] s).1 → TF f (gI C) m → Q none (wI C f)) : Mt G M_X5_word [.ref m, .int (nI c2), .int (nI c3), .int (-1)] C Q X := by
  refine Mt_of (by decide) (Nat.le_of_ble_eq_true rfl) ?_
  obtain ⟨hm0, ⟨g1, g6, g7, g8, g9, g10, g12, g13, g14, g15, g16, g17, g18⟩, k1, k2, k3, k4, k5, k6, k7, k8, k9, k10, k11, k12, k13, hmz⟩ := id hM
  refine x_aload_n dX5_word_0 rfl ?_
  refine x_aload_n dX5_word_1 rfl ?_
  refine x_iload_n dX5_word_2 rfl ?_
  refine x_callV (As := [_]) 7 hO dX5_word_3 o_X5_isNext v_X5_isNext l_X5_149 ⟨by decide, by decide⟩ (by first | (simp only [gK_wI]; assumption) | assumption) ⟨by decide, by decide⟩ rfl ⟨by decide, by decide⟩ rfl rfl (Nat.le_of_ble_eq_true rfl) (r_isNext hO hM hT hn hS hp h2 (fun r3 hr3 => ?_))
  dsimp only [Option.toList, List.cons_append, List.nil_append]
  refine x_callV (As := [_]) 7 hO dX5_word_6 o_X5_accept v_X5_accept l_X5_152 ⟨by decide, by decide⟩ (by first | (simp only [gK_wI]; assumption) | assumption) ⟨by decide, by decide⟩ rfl ⟨by decide, by decide⟩ rfl rfl (Nat.le_of_ble_eq_true rfl) (r_accept (b := decide (ch S n s.2.1 = c2)) hO hM hT (by rw [hr3]; simp only [decide_eq_true_eq]) (fun f6 t6 w6 => ?_))
  dsimp only [Option.toList, List.cons_append, List.nil_append]
  have t6 : TM f6 m S n (pC S n c2 s).2.1 (pC S n c2 s).1 := by rw [TM_pC.1, TM_pC.2.1]; exact t6
  have p6 := (pC_le (S := S) (n := n) (c := c2) h2 hp).2
  refine x_aload_n dX5_word_9 rfl ?_
  refine x_aload_n dX5_word_10 rfl ?_
  refine x_iload_n dX5_word_11 rfl ?_
  refine x_callV (As := [_]) 7 hO dX5_word_12 o_X5_isNext v_X5_isNext l_X5_149 ⟨by decide, by decide⟩ (by first | (simp only [gK_wI]; assumption) | assumption) ⟨by decide, by decide⟩ rfl ⟨by decide, by decide⟩ rfl rfl (Nat.le_of_ble_eq_true rfl) (r_isNext (C := wI C f6) hO (MdS_wI hM) t6 hn hS p6 h3 (fun r12 hr12 => ?_))
  dsimp only [Option.toList, List.cons_append, List.nil_append]
  refine x_callV (As := [_]) 7 hO dX5_word_15 o_X5_accept v_X5_accept l_X5_152 ⟨by decide, by decide⟩ (by first | (simp only [gK_wI]; assumption) | assumption) ⟨by decide, by decide⟩ rfl ⟨by decide, by decide⟩ rfl rfl (Nat.le_of_ble_eq_true rfl) (r_accept (C := wI C f6) (b := decide (ch S n (pC S n c2 s).2.1 = c3)) hO (MdS_wI hM) t6 (by rw [hr12]; simp only [decide_eq_true_eq]) (fun f15 t15 w15 => ?_))
  dsimp only [Option.toList, List.cons_append, List.nil_append]
  have t15 : TM f15 m S n (pC S n c3 (pC S n c2 s)).2.1 (pC S n c3 (pC S n c2 s)).1 := by rw [TM_pC.1, TM_pC.2.1]; exact t15
  have p15 := (pC_le (S := S) (n := n) (c := c3) h3 p6).2
  simp only [gI_wI] at w15
  try simp only [wI_wI, gI_wI]
  refine x_iload_n dX5_word_18 rfl ?_
  refine x_iconst (v := (-1)) dX5_word_19 (by decide) ?_
  refine x_icmp_eq (tgt := 32) dX5_word_20 (by decide) (fun c20 => ?_) (fun c20 => ?_)
  · refine x_ret dX5_word_32 rfl ?_
    exact hq f15 t15 (TF_t w15 w6)
  · exact absurd rfl c20
theorem r_word4 {G : GT} {C : AH} {Q : QT} {X : XT} {m n : Nat} {S : Nat → Nat} {s : PS} {c2 c3 c4 : Nat} (hO : GO G) (hM : MdS C m) (hT : TM (gI C) m S n s.2.1 s.1) (hn : n ≤ 120) (hS : ∀ i, i < n → S i < 256) (hp : s.2.1 ≤ n) (h2 : c2 < 1000) (h3 : c3 < 1000) (h4 : c4 < 1000) (hq : ∀ f : Nat → Nat → Int32, TM f m S n (pW S n [c2, c3, c4] s).2.1 (pW S n [c2, c3, c4] s).1 → TF f (gI C) m → Q none (wI C f)) : Mt G M_X5_word [.ref m, .int (nI c2), .int (nI c3), .int (nI c4)] C Q X := by
  refine Mt_of (by decide) (Nat.le_of_ble_eq_true rfl) ?_
  obtain ⟨hm0, ⟨g1, g6, g7, g8, g9, g10, g12, g13, g14, g15, g16, g17, g18⟩, k1, k2, k3, k4, k5, k6, k7, k8, k9, k10, k11, k12, k13, hmz⟩ := id hM
  refine x_aload_n dX5_word_0 rfl ?_
  refine x_aload_n dX5_word_1 rfl ?_
  refine x_iload_n dX5_word_2 rfl ?_
  refine x_callV (As := [_]) 7 hO dX5_word_3 o_X5_isNext v_X5_isNext l_X5_149 ⟨by decide, by decide⟩ (by first | (simp only [gK_wI]; assumption) | assumption) ⟨by decide, by decide⟩ rfl ⟨by decide, by decide⟩ rfl rfl (Nat.le_of_ble_eq_true rfl) (r_isNext hO hM hT hn hS hp h2 (fun r3 hr3 => ?_))
  dsimp only [Option.toList, List.cons_append, List.nil_append]
  refine x_callV (As := [_]) 7 hO dX5_word_6 o_X5_accept v_X5_accept l_X5_152 ⟨by decide, by decide⟩ (by first | (simp only [gK_wI]; assumption) | assumption) ⟨by decide, by decide⟩ rfl ⟨by decide, by decide⟩ rfl rfl (Nat.le_of_ble_eq_true rfl) (r_accept (b := decide (ch S n s.2.1 = c2)) hO hM hT (by rw [hr3]; simp only [decide_eq_true_eq]) (fun f6 t6 w6 => ?_))
  dsimp only [Option.toList, List.cons_append, List.nil_append]
  have t6 : TM f6 m S n (pC S n c2 s).2.1 (pC S n c2 s).1 := by rw [TM_pC.1, TM_pC.2.1]; exact t6
  have p6 := (pC_le (S := S) (n := n) (c := c2) h2 hp).2
  refine x_aload_n dX5_word_9 rfl ?_
  refine x_aload_n dX5_word_10 rfl ?_
  refine x_iload_n dX5_word_11 rfl ?_
  refine x_callV (As := [_]) 7 hO dX5_word_12 o_X5_isNext v_X5_isNext l_X5_149 ⟨by decide, by decide⟩ (by first | (simp only [gK_wI]; assumption) | assumption) ⟨by decide, by decide⟩ rfl ⟨by decide, by decide⟩ rfl rfl (Nat.le_of_ble_eq_true rfl) (r_isNext (C := wI C f6) hO (MdS_wI hM) t6 hn hS p6 h3 (fun r12 hr12 => ?_))
  dsimp only [Option.toList, List.cons_append, List.nil_append]
  refine x_callV (As := [_]) 7 hO dX5_word_15 o_X5_accept v_X5_accept l_X5_152 ⟨by decide, by decide⟩ (by first | (simp only [gK_wI]; assumption) | assumption) ⟨by decide, by decide⟩ rfl ⟨by decide, by decide⟩ rfl rfl (Nat.le_of_ble_eq_true rfl) (r_accept (C := wI C f6) (b := decide (ch S n (pC S n c2 s).2.1 = c3)) hO (MdS_wI hM) t6 (by rw [hr12]; simp only [decide_eq_true_eq]) (fun f15 t15 w15 => ?_))
  dsimp only [Option.toList, List.cons_append, List.nil_append]
  have t15 : TM f15 m S n (pC S n c3 (pC S n c2 s)).2.1 (pC S n c3 (pC S n c2 s)).1 := by rw [TM_pC.1, TM_pC.2.1]; exact t15
  have p15 := (pC_le (S := S) (n := n) (c := c3) h3 p6).2
  simp only [gI_wI] at w15
  try simp only [wI_wI, gI_wI]
  refine x_iload_n dX5_word_18 rfl ?_
  refine x_iconst (v := (-1)) dX5_word_19 (by decide) ?_
  refine x_icmp_eq (tgt := 32) dX5_word_20 (by decide) (fun c20 => ?_) (fun c20 => ?_)
  · exact absurd c20 (nI_m1 (by omega))
  · refine x_aload_n dX5_word_23 rfl ?_
    refine x_aload_n dX5_word_24 rfl ?_
    refine x_iload_n dX5_word_25 rfl ?_
    refine x_callV (As := [_]) 7 hO dX5_word_26 o_X5_isNext v_X5_isNext l_X5_149 ⟨by decide, by decide⟩ (by first | (simp only [gK_wI]; assumption) | assumption) ⟨by decide, by decide⟩ rfl ⟨by decide, by decide⟩ rfl rfl (Nat.le_of_ble_eq_true rfl) (r_isNext (C := wI C f15) hO (MdS_wI hM) t15 hn hS p15 h4 (fun r26 hr26 => ?_))
    dsimp only [Option.toList, List.cons_append, List.nil_append]
    refine x_callV (As := [_]) 7 hO dX5_word_29 o_X5_accept v_X5_accept l_X5_152 ⟨by decide, by decide⟩ (by first | (simp only [gK_wI]; assumption) | assumption) ⟨by decide, by decide⟩ rfl ⟨by decide, by decide⟩ rfl rfl (Nat.le_of_ble_eq_true rfl) (r_accept (C := wI C f15) (b := decide (ch S n (pC S n c3 (pC S n c2 s)).2.1 = c4)) hO (MdS_wI hM) t15 (by rw [hr26]; simp only [decide_eq_true_eq]) (fun f29 t29 w29 => ?_))
    dsimp only [Option.toList, List.cons_append, List.nil_append]
    refine x_ret dX5_word_32 rfl ?_
    have t29 : TM f29 m S n (pC S n c4 (pC S n c3 (pC S n c2 s))).2.1 (pC S n c4 (pC S n c3 (pC S n c2 s))).1 := by rw [TM_pC.1, TM_pC.2.1]; exact t29
    simp only [gI_wI] at w29
    try simp only [wI_wI, gI_wI]
    exact hq f29 t29 (TF_t w29 (TF_t w15 w6))
theorem r_num {G : GT} {C : AH} {Q : QT} {X : XT} {m n : Nat} {S : Nat → Nat} {s : PS} {lo hi k : Nat} (hO : GO G) (hM : MdS C m) (hT : TM (gI C) m S n s.2.1 s.1) (hn : n ≤ 120) (hS : ∀ i, i < n → S i < 256) (hp : s.2.1 ≤ n) (h9 : hi ≤ 999) (hl : lo ≤ 999) (hq : ∀ (r : Int32) (f : Nat → Nat → Int32), TM f m S n (pN S n lo hi k s).2.1 (pN S n lo hi k s).1 → ((pN S n lo hi k s).1 = true → r = nI ((pN S n lo hi k s).2.2 k)) → TF f (gI C) m → Q (some (.int r)) (wI C f)) : Mt G M_X5_number [.ref m, .int (nI lo), .int (nI hi)] C Q X := by
  refine r_number hO hM hT hn hS hp h9 hl fun r f t e w => ?_
  by_cases hg : s.1 = true
  · rw [if_pos hg] at t e
    have ep : pN S n lo hi k s = ((pNum S n lo hi s.2.1).1, (pNum S n lo hi s.2.1).2.1, uN s.2.2 k (pNum S n lo hi s.2.1).2.2) := if_pos hg
    refine hq r f ?_ ?_ w
    · rw [ep]; exact t
    · rw [ep]
      intro q
      rw [e q]
      exact congrArg nI uN_s.symm
  · rw [if_neg hg] at t
    have ep : pN S n lo hi k s = s := if_neg hg
    have hg2 : s.1 = false := by cases h : s.1 with
      | false => rfl
      | true => exact absurd h hg
    refine hq r f ?_ ?_ w
    · rw [ep, hg2]; exact t
    · rw [ep]
      exact fun q => absurd q hg
theorem okS_i {d t : Nat} (hd : d < 1000000) (ht : t < 1000000) : okS (nI d) (nI t) ↔ okSN d t := by
  refine okS_N.trans ⟨?_, fun h => ⟨d, t, rfl, rfl, h⟩⟩
  rintro ⟨k, x, e1, e2, h⟩
  have hx : x ≤ 999 := Nat.le_trans h.2.2 (by unfold hiS; split <;> (try split) <;> (try split) <;> omega)
  have hk6 := h.1
  have e1 := (nI_eq (by omega) (by omega)).mp e1
  have e2 := (nI_eq (by omega) (by omega)).mp e2
  subst e1 e2
  exact h

