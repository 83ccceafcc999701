/-! StringBuilder: append, length, charAt *)-/
theorem j_appendI {G : GT} {C : AH} {Q : QT} {X : XT} {sa va : Nat → Nat} {h : Nat} {w : List Nat} {v : Nat} (hO : GO G) (hX : GX G sa va) (hS : SbS C h) (hV : SbV (gI C) h w) (hv : v < 1000) (hl : w.length + (dgs v).length ≤ 16) (hq : ∀ f : Nat → Nat → Int32, SbV f h (w ++ dgs v) → SbF f (gI C) h → Q (some (.ref h)) (wI C f)) : Mt G M_J5_append_c97b9 [.ref h, .int (nI v)] C Q X := by
  refine Mt_of (by decide) (Nat.le_of_ble_eq_true rfl) ?_
  obtain ⟨kh, rh, kv, nv⟩ := id hS
  obtain ⟨v1, v3, vw, vc⟩ := id hV
  obtain ⟨d1, d3, d2⟩ := dgs_ok hv
  refine x_aload_n dJ5_append_c97b9_0 rfl ?_
  refine x_get 1 hO dJ5_append_c97b9_1 f_J5_79 (by first | (simp only [gK_wI]; assumption) | assumption) ⟨by decide, by decide⟩ (v := .int (nI w.length)) (congrArg Value.int v3) ?_
  refine x_istore_n dJ5_append_c97b9_4 (by decide) ?_
  refine x_iload_n dJ5_append_c97b9_5 rfl ?_
  refine x_iload_n dJ5_append_c97b9_6 rfl ?_
  refine x_callS (As := [_]) hO dJ5_append_c97b9_7 o_J6_stringSize_0f7a4 s_J6_stringSize_0f7a4 l_J5_245 ⟨by decide, by decide⟩ ⟨by decide, by decide⟩ rfl rfl (Nat.le_of_ble_eq_true rfl) (m_stringSize hv ?_)
  dsimp only [Option.toList, List.cons_append, List.nil_append]
  refine x_iadd dJ5_append_c97b9_10 ?_
  rw [nI_add]
  refine x_istore_n dJ5_append_c97b9_11 (by decide) ?_
  refine x_aload_n dJ5_append_c97b9_12 rfl ?_
  refine x_iload_n dJ5_append_c97b9_13 rfl ?_
  refine x_callU (As := [_]) hO dJ5_append_c97b9_14 o_J5_ensureCapacityInternal_d00df i_J5_ensureCapacityInternal_d00df sm_ensureCapacityInternal_d00df (se_ensureCapacityInternal_d00df hO) l_J5_100 ⟨by decide, by decide⟩ (by first | (simp only [gK_wI]; assumption) | assumption) ⟨by decide, by decide⟩ rfl rfl (Nat.le_of_ble_eq_true rfl) (j_ensure hO hX hS v1 hl ?_)
  dsimp only [Option.toList, List.cons_append, List.nil_append]
  refine x_aload_n dJ5_append_c97b9_17 rfl ?_
  refine x_callU (As := []) hO dJ5_append_c97b9_18 o_J5_isLatin1_aae02 i_J5_isLatin1_aae02 sm_isLatin1_aae02 (se_isLatin1_aae02 hO) l_J5_83 ⟨by decide, by decide⟩ (by first | (simp only [gK_wI]; assumption) | assumption) ⟨by decide, by decide⟩ rfl rfl (Nat.le_of_ble_eq_true rfl) (j_isLatin1 hO hX hS v1 ?_)
  dsimp only [Option.toList, List.cons_append, List.nil_append]
  refine x_if_eq (tgt := 37) dJ5_append_c97b9_21 (by decide) (fun c21 => ?_) (fun c21 => ?_)
  · exact absurd c21 (by decide)
  · refine x_iload_n dJ5_append_c97b9_24 rfl ?_
    refine x_iload_n dJ5_append_c97b9_25 rfl ?_
    refine x_aload_n dJ5_append_c97b9_26 rfl ?_
    refine x_get 1 hO dJ5_append_c97b9_27 f_J5_15 (by first | (simp only [gK_wI]; assumption) | assumption) ⟨by decide, by decide⟩ (v := .ref (h + 1)) (congrArg va_rf rh) ?_
    refine x_callS (As := [_, _, _]) hO dJ5_append_c97b9_30 o_J6_getChars_ba4f3 s_J6_getChars_ba4f3 l_J5_248 ⟨by decide, by decide⟩ ⟨by decide, by decide⟩ rfl rfl (Nat.le_of_ble_eq_true rfl) (m_getChars (p := w.length) hO hX kv nv (by decide) hv hl (fun f g1 g2 g3 r => ?_))
    dsimp only [Option.toList, List.cons_append, List.nil_append]
    refine x_pop dJ5_append_c97b9_33 rfl ?_
    refine x_goto (tgt := 48) dJ5_append_c97b9_34 (by decide) ?_
    try simp only [wI_wI, gI_wI]
    refine x_aload_n dJ5_append_c97b9_48 rfl ?_
    refine x_iload_n dJ5_append_c97b9_49 rfl ?_
    refine x_putI 1 hO dJ5_append_c97b9_50 f_J5_79 (fw_1_3 _) (by first | (simp only [gK_wI]; assumption) | assumption) ⟨by decide, by decide⟩ rfl rfl ?_
    refine x_aload_n dJ5_append_c97b9_53 rfl ?_
    refine x_aret (r := some _) dJ5_append_c97b9_54 rfl (by first | exact Or.inl ⟨_, rfl⟩ | exact Or.inr ⟨_, rfl⟩) ?_
    try simp only [wI_wI, gI_wI]
    refine hq _ (SbV_ap hV ?_ up2_s (fun j hj => ?_) (fun j hj => ?_) d2) (fun a q1 q2 => ?_)
    · rw [up2_n (by omega), g3 h (by omega)]
      exact v1
    · rw [up2_f (by omega), g2 j (Or.inl hj)]
    · rw [up2_f (by omega)]
      exact g1 j hj
    · rw [up2_f q1, g3 a q2]

theorem j_getBytes {G : GT} {C : AH} {Q : QT} {X : XT} {sa va : Nat → Nat} {h : Nat} {s v : Nat} {u : List Nat} {p : Nat} (hO : GO G) (hX : GX G sa va) (hS : SbS C h) (hs : eS G s v u) (hl : p + u.length ≤ 16) (hq : ∀ f : Nat → Nat → Int32, (∀ j, j < u.length → f (h + 1) (p + j) = nI (u.getD j 0)) → (∀ j, (j < p ∨ p + u.length ≤ j) → f (h + 1) j = gI C (h + 1) j) → (∀ a, a ≠ h + 1 → f a = gI C a) → Q none (wI C f)) : Mt G M_J0_getBytes_840e7 [.ref s, .ref (h + 1), .int (nI p), .int 0] C Q X := by
  refine Mt_of (by decide) (Nat.le_of_ble_eq_true rfl) ?_
  obtain ⟨kh, rh, kv, nv⟩ := id hS
  refine x_aload_n dJ0_getBytes_840e7_0 rfl ?_
  refine x_callVE (As := []) hO dJ0_getBytes_840e7_1 o_J0_coder_7d493 v_J0_coder_7d493 l_J0_335 ⟨by decide, by decide⟩ hs.1 ⟨by decide, by decide⟩ rfl rfl (Nat.le_of_ble_eq_true rfl) (m_coder hO hX hs ?_)
  dsimp only [Option.toList, List.cons_append, List.nil_append]
  refine x_iload_n dJ0_getBytes_840e7_4 rfl ?_
  refine x_icmp_ne (tgt := 28) dJ0_getBytes_840e7_5 (by decide) (fun c5 => ?_) (fun c5 => ?_)
  · exact absurd rfl c5
  · refine x_aload_n dJ0_getBytes_840e7_8 rfl ?_
    refine x_getE hO hs.2.2.1 dJ0_getBytes_840e7_9 f_J0_9 ?_
    refine x_iconst (v := nI 0) dJ0_getBytes_840e7_12 (by decide) ?_
    refine x_aload_n dJ0_getBytes_840e7_13 rfl ?_
    refine x_iload_n dJ0_getBytes_840e7_14 rfl ?_
    refine x_iload_n dJ0_getBytes_840e7_15 rfl ?_
    refine x_ishl dJ0_getBytes_840e7_16 ?_
    rw [shl0]
    refine x_aload_n dJ0_getBytes_840e7_17 rfl ?_
    refine x_getE hO hs.2.2.1 dJ0_getBytes_840e7_18 f_J0_9 ?_
    refine x_tlen hs.2.2.2.1 dJ0_getBytes_840e7_21 ?_
    refine x_copyt (f := fun j => nI (u.getD j 0)) (sj := 0) (dj := p) (mj := u.length) hO dJ0_getBytes_840e7_22 l_J0_212 nat_ac st_ac in_ac hs.2.2.2.1 kv rfl rfl rfl nv (by omega) (by omega) (by omega) (by decide) (fun i hi => (i2b_128 (hs.2.2.2.2.2 _)).2.2.1) ⟨by decide, by decide⟩ (Nat.le_of_ble_eq_true rfl) ?_
    refine x_goto (tgt := 43) dJ0_getBytes_840e7_25 (by decide) ?_
    refine x_ret dJ0_getBytes_840e7_43 rfl ?_
    try simp only [wI_wI, gI_wI]
    refine hq _ ?_ ?_ (fun a ha => ?_)
    · intro j hj
      show (if h + 1 = h + 1 then va_cpy (fun j => nI (u.getD j 0)) (gI C (h + 1)) 0 p u.length (p + j) else gI C (h + 1) (p + j)) = _
      rw [if_pos rfl]
      show (if p ≤ p + j ∧ p + j < p + u.length then nI (u.getD (0 + (p + j - p)) 0) else _) = _
      rw [if_pos ⟨by omega, by omega⟩]
      congr 2
      omega
    · intro j hj
      show (if h + 1 = h + 1 then va_cpy (fun j => nI (u.getD j 0)) (gI C (h + 1)) 0 p u.length j else gI C (h + 1) j) = _
      rw [if_pos rfl]
      exact if_neg (by omega)
    · funext j
      exact if_neg ha
theorem j_inflate {G : GT} {C : AH} {Q : QT} {X : XT} {sa va : Nat → Nat} {h : Nat} {s v : Nat} {u : List Nat} (hO : GO G) (hX : GX G sa va) (hS : SbS C h) (v1 : gI C h 1 = 0) (hs : eS G s v u) (hq : Q none C) : Mt G M_J5_inflateIfNeededFor_a7421 [.ref h, .ref s] C Q X := by
  refine Mt_of (by decide) (Nat.le_of_ble_eq_true rfl) ?_
  obtain ⟨kh, rh, kv, nv⟩ := id hS
  refine x_getsZ hO hX.2.2.2.2.2.2.1 dJ5_inflateIfNeededFor_a7421_0 f_J5_18 ?_
  refine x_if_eq (tgt := 21) dJ5_inflateIfNeededFor_a7421_3 (by decide) (fun c3 => ?_) (fun c3 => ?_)
  · exact absurd c3 (by decide)
  · refine x_aload_n dJ5_inflateIfNeededFor_a7421_6 rfl ?_
    refine x_get 1 hO dJ5_inflateIfNeededFor_a7421_7 f_J5_22 (by first | (simp only [gK_wI]; assumption) | assumption) ⟨by decide, by decide⟩ (v := .int 0) (congrArg Value.int v1) ?_
    refine x_aload_n dJ5_inflateIfNeededFor_a7421_10 rfl ?_
    refine x_callVE (As := []) hO dJ5_inflateIfNeededFor_a7421_11 o_J0_coder_7d493 v_J0_coder_7d493 l_J5_40 ⟨by decide, by decide⟩ hs.1 ⟨by decide, by decide⟩ rfl rfl (Nat.le_of_ble_eq_true rfl) (m_coder hO hX hs ?_)
    dsimp only [Option.toList, List.cons_append, List.nil_append]
    refine x_icmp_eq (tgt := 21) dJ5_inflateIfNeededFor_a7421_14 (by decide) (fun c14 => ?_) (fun c14 => ?_)
    · refine x_ret dJ5_inflateIfNeededFor_a7421_21 rfl ?_
      exact hq
    · exact absurd rfl c14
theorem j_putStringAt {G : GT} {C : AH} {Q : QT} {X : XT} {sa va : Nat → Nat} {h : Nat} {s v : Nat} {u : List Nat} {p : Nat} (hO : GO G) (hX : GX G sa va) (hS : SbS C h) (v1 : gI C h 1 = 0) (hs : eS G s v u) (hl : p + u.length ≤ 16) (hq : ∀ f : Nat → Nat → Int32, (∀ j, j < u.length → f (h + 1) (p + j) = nI (u.getD j 0)) → (∀ j, (j < p ∨ p + u.length ≤ j) → f (h + 1) j = gI C (h + 1) j) → (∀ a, a ≠ h + 1 → f a = gI C a) → Q none (wI C f)) : Mt G M_J5_putStringAt_47b60 [.ref h, .int (nI p), .ref s] C Q X := by
  refine Mt_of (by decide) (Nat.le_of_ble_eq_true rfl) ?_
  obtain ⟨kh, rh, kv, nv⟩ := id hS
  refine x_aload_n dJ5_putStringAt_47b60_0 rfl ?_
  refine x_aload_n dJ5_putStringAt_47b60_1 rfl ?_
  refine x_callU (As := [_]) hO dJ5_putStringAt_47b60_2 o_J5_inflateIfNeededFor_a7421 i_J5_inflateIfNeededFor_a7421 sm_inflateIfNeededFor_a7421 (se_inflateIfNeededFor_a7421 hO) l_J5_397 ⟨by decide, by decide⟩ (by first | (simp only [gK_wI]; assumption) | assumption) ⟨by decide, by decide⟩ rfl rfl (Nat.le_of_ble_eq_true rfl) (j_inflate hO hX hS v1 hs ?_)
  dsimp only [Option.toList, List.cons_append, List.nil_append]
  refine x_aload_n dJ5_putStringAt_47b60_5 rfl ?_
  refine x_aload_n dJ5_putStringAt_47b60_6 rfl ?_
  refine x_get 1 hO dJ5_putStringAt_47b60_7 f_J5_15 (by first | (simp only [gK_wI]; assumption) | assumption) ⟨by decide, by decide⟩ (v := .ref (h + 1)) (congrArg va_rf rh) ?_
  refine x_iload_n dJ5_putStringAt_47b60_10 rfl ?_
  refine x_aload_n dJ5_putStringAt_47b60_11 rfl ?_
  refine x_get 1 hO dJ5_putStringAt_47b60_12 f_J5_22 (by first | (simp only [gK_wI]; assumption) | assumption) ⟨by decide, by decide⟩ (v := .int 0) (congrArg Value.int v1) ?_
  refine x_callVE (As := [_, _, _]) hO dJ5_putStringAt_47b60_15 o_J0_getBytes_840e7 v_J0_getBytes_840e7 l_J5_399 ⟨by decide, by decide⟩ hs.1 ⟨by decide, by decide⟩ rfl rfl (Nat.le_of_ble_eq_true rfl) (j_getBytes hO hX hS hs hl (fun f g1 g2 g3 => ?_))
  dsimp only [Option.toList, List.cons_append, List.nil_append]
  refine x_ret dJ5_putStringAt_47b60_18 rfl ?_
  exact hq f g1 g2 g3

theorem j_appendS {G : GT} {C : AH} {Q : QT} {X : XT} {sa va : Nat → Nat} {h : Nat} {w : List Nat} {s v : Nat} {u : List Nat} (hO : GO G) (hX : GX G sa va) (hS : SbS C h) (hV : SbV (gI C) h w) (hs : eS G s v u) (hl : w.length + u.length ≤ 16) (hq : ∀ f : Nat → Nat → Int32, SbV f h (w ++ u) → SbF f (gI C) h → Q (some (.ref h)) (wI C f)) : Mt G M_J5_append_cf1ce [.ref h, .ref s] C Q X := by
  refine Mt_of (by decide) (Nat.le_of_ble_eq_true rfl) ?_
  obtain ⟨kh, rh, kv, nv⟩ := id hS
  obtain ⟨v1, v3, vw, vc⟩ := id hV
  refine x_aload_n dJ5_append_cf1ce_0 rfl ?_
  refine x_ifnonnullR (tgt := 9) dJ5_append_cf1ce_1 (by decide) ?_
  refine x_aload_n dJ5_append_cf1ce_9 rfl ?_
  refine x_callVE (As := []) hO dJ5_append_cf1ce_10 o_J0_length_8abf5 v_J0_length_8abf5 l_J5_32 ⟨by decide, by decide⟩ hs.1 ⟨by decide, by decide⟩ rfl rfl (Nat.le_of_ble_eq_true rfl) (m_strLen hO hX hs ?_)
  dsimp only [Option.toList, List.cons_append, List.nil_append]
  refine x_istore_n dJ5_append_cf1ce_13 (by decide) ?_
  refine x_aload_n dJ5_append_cf1ce_14 rfl ?_
  refine x_aload_n dJ5_append_cf1ce_15 rfl ?_
  refine x_get 1 hO dJ5_append_cf1ce_16 f_J5_79 (by first | (simp only [gK_wI]; assumption) | assumption) ⟨by decide, by decide⟩ (v := .int (nI w.length)) (congrArg Value.int v3) ?_
  refine x_iload_n dJ5_append_cf1ce_19 rfl ?_
  refine x_iadd dJ5_append_cf1ce_20 ?_
  rw [nI_add]
  refine x_callU (As := [_]) hO dJ5_append_cf1ce_21 o_J5_ensureCapacityInternal_d00df i_J5_ensureCapacityInternal_d00df sm_ensureCapacityInternal_d00df (se_ensureCapacityInternal_d00df hO) l_J5_100 ⟨by decide, by decide⟩ (by first | (simp only [gK_wI]; assumption) | assumption) ⟨by decide, by decide⟩ rfl rfl (Nat.le_of_ble_eq_true rfl) (j_ensure hO hX hS v1 hl ?_)
  dsimp only [Option.toList, List.cons_append, List.nil_append]
  refine x_aload_n dJ5_append_cf1ce_24 rfl ?_
  refine x_aload_n dJ5_append_cf1ce_25 rfl ?_
  refine x_get 1 hO dJ5_append_cf1ce_26 f_J5_79 (by first | (simp only [gK_wI]; assumption) | assumption) ⟨by decide, by decide⟩ (v := .int (nI w.length)) (congrArg Value.int v3) ?_
  refine x_aload_n dJ5_append_cf1ce_29 rfl ?_
  refine x_callU (As := [_, _]) hO dJ5_append_cf1ce_30 o_J5_putStringAt_47b60 i_J5_putStringAt_47b60 sm_putStringAt_47b60 (se_putStringAt_47b60 hO) l_J5_208 ⟨by decide, by decide⟩ (by first | (simp only [gK_wI]; assumption) | assumption) ⟨by decide, by decide⟩ rfl rfl (Nat.le_of_ble_eq_true rfl) (j_putStringAt (p := w.length) hO hX hS v1 hs hl (fun f g1 g2 g3 => ?_))
  dsimp only [Option.toList, List.cons_append, List.nil_append]
  refine x_aload_n dJ5_append_cf1ce_33 rfl ?_
  refine x_dup dJ5_append_cf1ce_34 rfl ?_
  refine x_get 1 hO dJ5_append_cf1ce_35 f_J5_79 (by first | (simp only [gK_wI]; assumption) | assumption) ⟨by decide, by decide⟩ (v := .int (nI w.length)) (congrArg Value.int ((congrFun (g3 h (by omega)) 3).trans v3)) ?_
  refine x_iload_n dJ5_append_cf1ce_38 rfl ?_
  refine x_iadd dJ5_append_cf1ce_39 ?_
  rw [nI_add]
  refine x_putI 1 hO dJ5_append_cf1ce_40 f_J5_79 (fw_1_3 _) (by first | (simp only [gK_wI]; assumption) | assumption) ⟨by decide, by decide⟩ rfl rfl ?_
  refine x_aload_n dJ5_append_cf1ce_43 rfl ?_
  refine x_aret (r := some _) dJ5_append_cf1ce_44 rfl (by first | exact Or.inl ⟨_, rfl⟩ | exact Or.inr ⟨_, rfl⟩) ?_
  try simp only [wI_wI, gI_wI]
  refine hq _ (SbV_ap hV ?_ up2_s (fun j hj => ?_) (fun j hj => ?_) hs.2.2.2.2.2) (fun a q1 q2 => ?_)
  · rw [up2_n (by omega), g3 h (by omega)]
    exact v1
  · rw [up2_f (by omega), g2 j (Or.inl hj)]
  · rw [up2_f (by omega)]
    exact g1 j hj
  · rw [up2_f q1, g3 a q2]
theorem j_length {G : GT} {C : AH} {Q : QT} {X : XT} {sa va : Nat → Nat} {h : Nat} {w : List Nat} (hO : GO G) (hX : GX G sa va) (hS : SbS C h) (hV : SbV (gI C) h w) (hq : Q (some (.int (nI w.length))) C) : Mt G M_J5_length_8abf5 [.ref h] C Q X := by
  refine Mt_of (by decide) (Nat.le_of_ble_eq_true rfl) ?_
  obtain ⟨kh, rh, kv, nv⟩ := id hS
  obtain ⟨v1, v3, vw, vc⟩ := id hV
  refine x_aload_n dJ5_length_8abf5_0 rfl ?_
  refine x_get 1 hO dJ5_length_8abf5_1 f_J5_79 (by first | (simp only [gK_wI]; assumption) | assumption) ⟨by decide, by decide⟩ (v := .int (nI w.length)) (congrArg Value.int v3) ?_
  refine x_iret dJ5_length_8abf5_4 rfl rfl ?_
  exact hq
theorem j_charAt {G : GT} {C : AH} {Q : QT} {X : XT} {sa va : Nat → Nat} {h : Nat} {w : List Nat} {i : Nat} (hO : GO G) (hX : GX G sa va) (hS : SbS C h) (hV : SbV (gI C) h w) (hi : i < w.length) (hl : w.length ≤ 16) (hq : Q (some (.int (nI (w.getD i 0)))) C) : Mt G M_J5_charAt_5068e [.ref h, .int (nI i)] C Q X := by
  refine Mt_of (by decide) (Nat.le_of_ble_eq_true rfl) ?_
  obtain ⟨kh, rh, kv, nv⟩ := id hS
  obtain ⟨v1, v3, vw, vc⟩ := id hV
  have hc := vc i
  have hmin : (if nI 16 < nI w.length then nI 16 else nI w.length) = nI w.length := if_neg (by simp (disch := omega) only [nI_ltI]; omega)
  refine x_aload_n dJ5_charAt_5068e_0 rfl ?_
  refine x_get 1 hO dJ5_charAt_5068e_1 f_J5_22 (by first | (simp only [gK_wI]; assumption) | assumption) ⟨by decide, by decide⟩ (v := .int 0) (congrArg Value.int v1) ?_
  refine x_istore_n dJ5_charAt_5068e_4 (by decide) ?_
  refine x_aload_n dJ5_charAt_5068e_5 rfl ?_
  refine x_get 1 hO dJ5_charAt_5068e_6 f_J5_15 (by first | (simp only [gK_wI]; assumption) | assumption) ⟨by decide, by decide⟩ (v := .ref (h + 1)) (congrArg va_rf rh) ?_
  refine x_astore_n dJ5_charAt_5068e_9 (by decide) ?_
  refine x_aload_n dJ5_charAt_5068e_10 rfl ?_
  refine x_get 1 hO dJ5_charAt_5068e_11 f_J5_79 (by first | (simp only [gK_wI]; assumption) | assumption) ⟨by decide, by decide⟩ (v := .int (nI w.length)) (congrArg Value.int v3) ?_
  refine x_aload_n dJ5_charAt_5068e_14 rfl ?_
  refine x_alen 23 _ hO dJ5_charAt_5068e_15 (by first | (simp only [gK_wI]; assumption) | assumption) ⟨by decide, by decide⟩ (by first | (simp only [gN_wI]; assumption) | assumption) ?_
  refine x_iload_n dJ5_charAt_5068e_16 rfl ?_
  refine x_ishr dJ5_charAt_5068e_17 ?_
  rw [shr0]
  refine x_mmin hO dJ5_charAt_5068e_18 (by rw [← min_name]; exact l_J5_138) min_s math_i min_c ⟨by decide, by decide⟩ (Nat.le_of_ble_eq_true rfl) ?_
  rw [hmin]
  refine x_istore dJ5_charAt_5068e_21 (by decide) ?_
  refine x_iload_n dJ5_charAt_5068e_23 rfl ?_
  refine x_iload dJ5_charAt_5068e_24 rfl ?_
  refine x_callS (As := [_, _]) hO dJ5_charAt_5068e_26 o_J0_checkIndex_df160 s_J0_checkIndex_df160 l_J5_144 ⟨by decide, by decide⟩ ⟨by decide, by decide⟩ rfl rfl (Nat.le_of_ble_eq_true rfl) (m_sCheckIndex hO hX hi (by omega) ?_)
  dsimp only [Option.toList, List.cons_append, List.nil_append]
  refine x_iload_n dJ5_charAt_5068e_29 rfl ?_
  refine x_if_ne (tgt := 42) dJ5_charAt_5068e_30 (by decide) (fun c30 => ?_) (fun c30 => ?_)
  · exact absurd rfl c30
  · refine x_aload_n dJ5_charAt_5068e_33 rfl ?_
    refine x_iload_n dJ5_charAt_5068e_34 rfl ?_
    refine x_bald i 16 hO dJ5_charAt_5068e_35 kv rfl nv (by omega) (by decide) ?_
    rw [vw i hi]
    refine x_sipush (v := nI 255) dJ5_charAt_5068e_36 (by decide) ?_
    refine x_iand dJ5_charAt_5068e_39 ?_
    refine x_i2c dJ5_charAt_5068e_40 ?_
    rw [(c255 (show w.getD i 0 < 256 by omega)).1]
    refine x_iret dJ5_charAt_5068e_41 rfl (c255 (by omega)).2 ?_
    exact hq

theorem k_append_cf468 {G : GT} {C : AH} {Q : QT} {X : XT} {sa va : Nat → Nat} {h : Nat} {w : List Nat} {c : Nat} (hO : GO G) (hX : GX G sa va) (hS : SbS C h) (hV : SbV (gI C) h w) (hc : c < 128) (hl : w.length < 16) (hq : ∀ f : Nat → Nat → Int32, SbV f h (w ++ [c]) → SbF f (gI C) h → Q (some (.ref h)) (wI C f)) : Mt G M_J4_append_cf468 [.ref h, .int (nI c)] C Q X := by
  refine Mt_of (by decide) (Nat.le_of_ble_eq_true rfl) ?_
  obtain ⟨kh, rh, kv, nv⟩ := id hS
  refine x_aload_n dJ4_append_cf468_0 rfl ?_
  refine x_iload_n dJ4_append_cf468_1 rfl ?_
  refine x_callSup (As := [_]) hO dJ4_append_cf468_2 o_J5_append_3fe6f i_J5_append_3fe6f sm_append_3fe6f su_SB (by decide) l_J4_50 ⟨by decide, by decide⟩ (by first | (simp only [gK_wI]; assumption) | assumption) ⟨by decide, by decide⟩ rfl rfl (Nat.le_of_ble_eq_true rfl) (j_appendC hO hX hS hV hc hl (fun f v r => ?_))
  dsimp only [Option.toList, List.cons_append, List.nil_append]
  refine x_pop dJ4_append_cf468_5 rfl ?_
  refine x_aload_n dJ4_append_cf468_6 rfl ?_
  refine x_aret (r := some _) dJ4_append_cf468_7 rfl (by first | exact Or.inl ⟨_, rfl⟩ | exact Or.inr ⟨_, rfl⟩) ?_
  exact hq f v r

theorem k_append_bf812 {G : GT} {C : AH} {Q : QT} {X : XT} {sa va : Nat → Nat} {h : Nat} {w : List Nat} {v : Nat} (hO : GO G) (hX : GX G sa va) (hS : SbS C h) (hV : SbV (gI C) h w) (hv : v < 1000) (hl : w.length + (dgs v).length ≤ 16) (hq : ∀ f : Nat → Nat → Int32, SbV f h (w ++ dgs v) → SbF f (gI C) h → Q (some (.ref h)) (wI C f)) : Mt G M_J4_append_bf812 [.ref h, .int (nI v)] C Q X := by
  refine Mt_of (by decide) (Nat.le_of_ble_eq_true rfl) ?_
  obtain ⟨kh, rh, kv, nv⟩ := id hS
  refine x_aload_n dJ4_append_bf812_0 rfl ?_
  refine x_iload_n dJ4_append_bf812_1 rfl ?_
  refine x_callSup (As := [_]) hO dJ4_append_bf812_2 o_J5_append_c97b9 i_J5_append_c97b9 sm_append_c97b9 su_SB (by decide) l_J4_53 ⟨by decide, by decide⟩ (by first | (simp only [gK_wI]; assumption) | assumption) ⟨by decide, by decide⟩ rfl rfl (Nat.le_of_ble_eq_true rfl) (j_appendI hO hX hS hV hv hl (fun f v r => ?_))
  dsimp only [Option.toList, List.cons_append, List.nil_append]
  refine x_pop dJ4_append_bf812_5 rfl ?_
  refine x_aload_n dJ4_append_bf812_6 rfl ?_
  refine x_aret (r := some _) dJ4_append_bf812_7 rfl (by first | exact Or.inl ⟨_, rfl⟩ | exact Or.inr ⟨_, rfl⟩) ?_
  exact hq f v r

theorem k_append_15ec4 {G : GT} {C : AH} {Q : QT} {X : XT} {sa va : Nat → Nat} {h : Nat} {w : List Nat} {s v : Nat} {u : List Nat} (hO : GO G) (hX : GX G sa va) (hS : SbS C h) (hV : SbV (gI C) h w) (hs : eS G s v u) (hl : w.length + u.length ≤ 16) (hq : ∀ f : Nat → Nat → Int32, SbV f h (w ++ u) → SbF f (gI C) h → Q (some (.ref h)) (wI C f)) : Mt G M_J4_append_15ec4 [.ref h, .ref s] C Q X := by
  refine Mt_of (by decide) (Nat.le_of_ble_eq_true rfl) ?_
  obtain ⟨kh, rh, kv, nv⟩ := id hS
  refine x_aload_n dJ4_append_15ec4_0 rfl ?_
  refine x_aload_n dJ4_append_15ec4_1 rfl ?_
  refine x_callSup (As := [_]) hO dJ4_append_15ec4_2 o_J5_append_cf1ce i_J5_append_cf1ce sm_append_cf1ce su_SB (by decide) l_J4_29 ⟨by decide, by decide⟩ (by first | (simp only [gK_wI]; assumption) | assumption) ⟨by decide, by decide⟩ rfl rfl (Nat.le_of_ble_eq_true rfl) (j_appendS hO hX hS hV hs hl (fun f v r => ?_))
  dsimp only [Option.toList, List.cons_append, List.nil_append]
  refine x_pop dJ4_append_15ec4_5 rfl ?_
  refine x_aload_n dJ4_append_15ec4_6 rfl ?_
  refine x_aret (r := some _) dJ4_append_15ec4_7 rfl (by first | exact Or.inl ⟨_, rfl⟩ | exact Or.inr ⟨_, rfl⟩) ?_
  exact hq f v r

theorem k_length_8abf5 {G : GT} {C : AH} {Q : QT} {X : XT} {sa va : Nat → Nat} {h : Nat} {w : List Nat} (hO : GO G) (hX : GX G sa va) (hS : SbS C h) (hV : SbV (gI C) h w)  (hq : Q (some (.int (nI w.length))) C) : Mt G M_J4_length_8abf5 [.ref h] C Q X := by
  refine Mt_of (by decide) (Nat.le_of_ble_eq_true rfl) ?_
  obtain ⟨kh, rh, kv, nv⟩ := id hS
  refine x_aload_n dJ4_length_8abf5_0 rfl ?_
  refine x_callSup (As := []) hO dJ4_length_8abf5_1 o_J5_length_8abf5 i_J5_length_8abf5 sm_length_8abf5 su_SB (by decide) l_J4_343 ⟨by decide, by decide⟩ (by first | (simp only [gK_wI]; assumption) | assumption) ⟨by decide, by decide⟩ rfl rfl (Nat.le_of_ble_eq_true rfl) (j_length hO hX hS hV ?_)
  dsimp only [Option.toList, List.cons_append, List.nil_append]
  refine x_iret dJ4_length_8abf5_4 rfl rfl ?_
  exact hq

theorem k_charAt_5068e {G : GT} {C : AH} {Q : QT} {X : XT} {sa va : Nat → Nat} {h : Nat} {w : List Nat} {i : Nat} (hO : GO G) (hX : GX G sa va) (hS : SbS C h) (hV : SbV (gI C) h w) (hi : i < w.length) (hl : w.length ≤ 16) (hq : Q (some (.int (nI (w.getD i 0)))) C) : Mt G M_J4_charAt_5068e [.ref h, .int (nI i)] C Q X := by
  refine Mt_of (by decide) (Nat.le_of_ble_eq_true rfl) ?_
  obtain ⟨kh, rh, kv, nv⟩ := id hS
  refine x_aload_n dJ4_charAt_5068e_0 rfl ?_
  refine x_iload_n dJ4_charAt_5068e_1 rfl ?_
  refine x_callSup (As := [_]) hO dJ4_charAt_5068e_2 o_J5_charAt_5068e i_J5_charAt_5068e sm_charAt_5068e su_SB (by decide) l_J4_329 ⟨by decide, by decide⟩ (by first | (simp only [gK_wI]; assumption) | assumption) ⟨by decide, by decide⟩ rfl rfl (Nat.le_of_ble_eq_true rfl) (j_charAt hO hX hS hV hi hl ?_)
  dsimp only [Option.toList, List.cons_append, List.nil_append]
  refine x_iret dJ4_charAt_5068e_5 rfl (c255 (by have := hV.2.2.2 i; omega)).2 ?_
  exact hq

