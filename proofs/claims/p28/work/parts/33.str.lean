/-! Strings that lay there *)-/
theorem c255 {c : Nat} (h : c < 256) : ((nI c &&& nI 255).toUInt32 % 65536).toInt32 = nI c ∧ narrow .char (.int (nI c)) = .int (nI c) := by
  have q : ∀ c : Fin 256, ((nI c.val &&& nI 255).toUInt32 % 65536).toInt32 = nI c.val ∧ narrow .char (.int (nI c.val)) = .int (nI c.val) := by decide +kernel
  exact q ⟨c, h⟩
/-- a String with these signs -/
def eS (G : GT) (s v : Nat) (w : List Nat) : Prop := eO G "java/lang/String" s ∧ eF G "java/lang/String" "coder" "B" (.int 0) s ∧ eF G "java/lang/String" "value" "[B" (.ref v) s ∧ eT G .byte v w.length (fun j => .int (nI (w.getD j 0))) ∧ w.length < 1000 ∧ ∀ j, w.getD j 0 < 128
theorem strW_ok (i : Nat) : (strW i).length < 1000 ∧ ∀ j, (strW i).getD j 0 < 128 := by
  have h : ∀ w : List Nat, (∀ c, c ∈ w → c < 128) → ∀ j, w.getD j 0 < 128 := by
    intro w hw j
    rw [List.getD_eq_getElem?_getD]
    cases e : w[j]? with
    | none => show 0 < 128; omega
    | some c => exact hw c (List.mem_of_getElem? e)
  unfold strW
  split <;> exact ⟨by decide, h _ (by decide)⟩
theorem GX_S {G : GT} {sa va : Nat → Nat} (hX : GX G sa va) (i : Nat) (hi : i < 8) : eS G (sa i) (va i) (strW i) := by
  obtain ⟨a, b, c, d⟩ := hX.2.2.1 i hi
  exact ⟨a, b, c, d, strW_ok i⟩

theorem shr0 {x : Int32} : x >>> ((0 : Int32) &&& 31) = x := by
  have h : ((0 : Int32) &&& 31) = 0 := by decide
  rw [h]
  exact Int32.shiftRight_zero
theorem m_coder {G : GT} {C : AH} {Q : QT} {X : XT} {sa va : Nat → Nat} {s v : Nat} {w : List Nat} (hO : GO G) (hX : GX G sa va) (hs : eS G s v w) (hq : Q (some (.int 0)) C) : Mt G M_J0_coder_7d493 [.ref s] C Q X := by
  refine Mt_of (by decide) (Nat.le_of_ble_eq_true rfl) ?_
  refine x_getsZ hO hX.2.2.2.2.2.2.1 dJ0_coder_7d493_0 f_J0_38 ?_
  refine x_if_eq (tgt := 13) dJ0_coder_7d493_3 (by decide) (fun c3 => ?_) (fun c3 => ?_)
  · exact absurd c3 (by decide)
  · refine x_aload_n dJ0_coder_7d493_6 rfl ?_
    refine x_getE hO hs.2.1 dJ0_coder_7d493_7 f_J0_15 ?_
    refine x_goto (tgt := 14) dJ0_coder_7d493_10 (by decide) ?_
    refine x_iret dJ0_coder_7d493_14 rfl (by first | rfl | assumption) ?_
    exact hq
theorem m_isLatin1 {G : GT} {C : AH} {Q : QT} {X : XT} {sa va : Nat → Nat} {s v : Nat} {w : List Nat} (hO : GO G) (hX : GX G sa va) (hs : eS G s v w) (hq : Q (some (.int 1)) C) : Mt G M_J0_isLatin1_aae02 [.ref s] C Q X := by
  refine Mt_of (by decide) (Nat.le_of_ble_eq_true rfl) ?_
  refine x_getsZ hO hX.2.2.2.2.2.2.1 dJ0_isLatin1_aae02_0 f_J0_38 ?_
  refine x_if_eq (tgt := 17) dJ0_isLatin1_aae02_3 (by decide) (fun c3 => ?_) (fun c3 => ?_)
  · exact absurd c3 (by decide)
  · refine x_aload_n dJ0_isLatin1_aae02_6 rfl ?_
    refine x_getE hO hs.2.1 dJ0_isLatin1_aae02_7 f_J0_15 ?_
    refine x_if_ne (tgt := 17) dJ0_isLatin1_aae02_10 (by decide) (fun c10 => ?_) (fun c10 => ?_)
    · exact absurd rfl c10
    · refine x_iconst (v := nI 1) dJ0_isLatin1_aae02_13 (by decide) ?_
      refine x_goto (tgt := 18) dJ0_isLatin1_aae02_14 (by decide) ?_
      refine x_iret dJ0_isLatin1_aae02_18 rfl (by first | rfl | assumption) ?_
      exact hq
theorem m_strLen {G : GT} {C : AH} {Q : QT} {X : XT} {sa va : Nat → Nat} {s v : Nat} {w : List Nat} (hO : GO G) (hX : GX G sa va) (hs : eS G s v w) (hq : Q (some (.int (nI w.length))) C) : Mt G M_J0_length_8abf5 [.ref s] C Q X := by
  refine Mt_of (by decide) (Nat.le_of_ble_eq_true rfl) ?_
  refine x_aload_n dJ0_length_8abf5_0 rfl ?_
  refine x_getE hO hs.2.2.1 dJ0_length_8abf5_1 f_J0_9 ?_
  refine x_tlen hs.2.2.2.1 dJ0_length_8abf5_4 ?_
  refine x_aload_n dJ0_length_8abf5_5 rfl ?_
  refine x_callVE (As := []) hO dJ0_length_8abf5_6 o_J0_coder_7d493 v_J0_coder_7d493 l_J0_335 ⟨by decide, by decide⟩ hs.1 ⟨by decide, by decide⟩ rfl rfl (Nat.le_of_ble_eq_true rfl) (m_coder hO hX hs ?_)
  dsimp only [Option.toList, List.cons_append, List.nil_append]
  refine x_ishr dJ0_length_8abf5_9 ?_
  rw [show nI w.length >>> ((0 : Int32) &&& 31) = nI w.length from shr0]
  refine x_iret dJ0_length_8abf5_10 rfl rfl ?_
  exact hq
theorem m_checkIndex {G : GT} {C : AH} {Q : QT} {X : XT} {i k : Nat} {x : Option Nat} (hi : i < k) (hk : k < 1000000) (hq : Q (some (.int (nI i))) C) : Mt G M_J3_checkIndex_8e157 [.int (nI i), .int (nI k), va_rf x] C Q X := by
  cases x with
  | none =>
    refine Mt_of (by decide) (Nat.le_of_ble_eq_true rfl) ?_
    refine x_iload_n dJ3_checkIndex_8e157_0 rfl ?_
    refine x_if_lt (tgt := 9) dJ3_checkIndex_8e157_1 (by decide) (fun c1 => ?_) (fun c1 => ?_)
    · exact absurd c1 (nI_pos (by omega))
    · refine x_iload_n dJ3_checkIndex_8e157_4 rfl ?_
      refine x_iload_n dJ3_checkIndex_8e157_5 rfl ?_
      refine x_icmp_lt (tgt := 16) dJ3_checkIndex_8e157_6 (by decide) (fun c6 => ?_) (fun c6 => ?_)
      · refine x_iload_n dJ3_checkIndex_8e157_16 rfl ?_
        refine x_iret dJ3_checkIndex_8e157_17 rfl rfl ?_
        exact hq
      · exact absurd (nI_lt hi (by omega)) c6
  | some x =>
    refine Mt_of (by decide) (Nat.le_of_ble_eq_true rfl) ?_
    refine x_iload_n dJ3_checkIndex_8e157_0 rfl ?_
    refine x_if_lt (tgt := 9) dJ3_checkIndex_8e157_1 (by decide) (fun c1 => ?_) (fun c1 => ?_)
    · exact absurd c1 (nI_pos (by omega))
    · refine x_iload_n dJ3_checkIndex_8e157_4 rfl ?_
      refine x_iload_n dJ3_checkIndex_8e157_5 rfl ?_
      refine x_icmp_lt (tgt := 16) dJ3_checkIndex_8e157_6 (by decide) (fun c6 => ?_) (fun c6 => ?_)
      · refine x_iload_n dJ3_checkIndex_8e157_16 rfl ?_
        refine x_iret dJ3_checkIndex_8e157_17 rfl rfl ?_
        exact hq
      · exact absurd (nI_lt hi (by omega)) c6
theorem m_sCheckIndex {G : GT} {C : AH} {Q : QT} {X : XT} {sa va : Nat → Nat} {i k : Nat} (hO : GO G) (hX : GX G sa va) (hi : i < k) (hk : k < 1000000) (hq : Q none C) : Mt G M_J0_checkIndex_df160 [.int (nI i), .int (nI k)] C Q X := by
  refine Mt_of (by decide) (Nat.le_of_ble_eq_true rfl) ?_
  obtain ⟨af, hst⟩ := hX.2.2.2.2.2.2.2.2.2
  refine x_iload_n dJ0_checkIndex_df160_0 rfl ?_
  refine x_iload_n dJ0_checkIndex_df160_1 rfl ?_
  refine x_getsZ hO hst dJ0_checkIndex_df160_2 f_J0_1053 ?_
  refine x_callS (As := [_, _, _]) hO dJ0_checkIndex_df160_5 o_J3_checkIndex_8e157 s_J3_checkIndex_8e157 l_J0_1059 ⟨by decide, by decide⟩ ⟨by decide, by decide⟩ rfl rfl (Nat.le_of_ble_eq_true rfl) (m_checkIndex hi hk ?_)
  dsimp only [Option.toList, List.cons_append, List.nil_append]
  refine x_pop dJ0_checkIndex_df160_8 rfl ?_
  refine x_ret dJ0_checkIndex_df160_9 rfl ?_
  exact hq
theorem m_latCharAt {G : GT} {C : AH} {Q : QT} {X : XT} {sa va : Nat → Nat} {v k : Nat} {f : Nat → Nat} {j : Nat} (hO : GO G) (hX : GX G sa va) (ht : eT G .byte v k (fun j => .int (nI (f j)))) (hj : j < k) (hk : k < 1000000) (hc : f j < 128) (hq : Q (some (.int (nI (f j)))) C) : Mt G M_J1_charAt_3b067 [.ref v, .int (nI j)] C Q X := by
  refine Mt_of (by decide) (Nat.le_of_ble_eq_true rfl) ?_
  refine x_iload_n dJ1_charAt_3b067_0 rfl ?_
  refine x_aload_n dJ1_charAt_3b067_1 rfl ?_
  refine x_tlen ht dJ1_charAt_3b067_2 ?_
  refine x_callS (As := [_, _]) hO dJ1_charAt_3b067_3 o_J0_checkIndex_df160 s_J0_checkIndex_df160 l_J1_9 ⟨by decide, by decide⟩ ⟨by decide, by decide⟩ rfl rfl (Nat.le_of_ble_eq_true rfl) (m_sCheckIndex hO hX hj hk ?_)
  dsimp only [Option.toList, List.cons_append, List.nil_append]
  refine x_aload_n dJ1_charAt_3b067_6 rfl ?_
  refine x_iload_n dJ1_charAt_3b067_7 rfl ?_
  refine x_tbld _ ht dJ1_charAt_3b067_8 rfl (by omega) (by omega) ?_
  refine x_sipush (v := nI 255) dJ1_charAt_3b067_9 (by decide) ?_
  refine x_iand dJ1_charAt_3b067_12 ?_
  refine x_i2c dJ1_charAt_3b067_13 ?_
  rw [(c255 (show f j < 256 by omega)).1]
  refine x_iret dJ1_charAt_3b067_14 rfl (c255 (by omega)).2 ?_
  exact hq
theorem m_charAt {G : GT} {C : AH} {Q : QT} {X : XT} {sa va : Nat → Nat} {s v : Nat} {w : List Nat} {j : Nat} (hO : GO G) (hX : GX G sa va) (hs : eS G s v w) (hj : j < w.length) (hq : Q (some (.int (nI (w.getD j 0)))) C) : Mt G M_J0_charAt_5068e [.ref s, .int (nI j)] C Q X := by
  refine Mt_of (by decide) (Nat.le_of_ble_eq_true rfl) ?_
  obtain ⟨a1, a2, a3, a4, a5, a6⟩ := id hs
  have a6j := a6 j
  refine x_aload_n dJ0_charAt_5068e_0 rfl ?_
  refine x_callVE (As := []) hO dJ0_charAt_5068e_1 o_J0_isLatin1_aae02 v_J0_isLatin1_aae02 l_J0_492 ⟨by decide, by decide⟩ a1 ⟨by decide, by decide⟩ rfl rfl (Nat.le_of_ble_eq_true rfl) (m_isLatin1 hO hX hs ?_)
  dsimp only [Option.toList, List.cons_append, List.nil_append]
  refine x_if_eq (tgt := 16) dJ0_charAt_5068e_4 (by decide) (fun c4 => ?_) (fun c4 => ?_)
  · exact absurd c4 (by decide)
  · refine x_aload_n dJ0_charAt_5068e_7 rfl ?_
    refine x_getE hO a3 dJ0_charAt_5068e_8 f_J0_9 ?_
    refine x_iload_n dJ0_charAt_5068e_11 rfl ?_
    refine x_callS (As := [_, _]) hO dJ0_charAt_5068e_12 o_J1_charAt_3b067 s_J1_charAt_3b067 l_J0_495 ⟨by decide, by decide⟩ ⟨by decide, by decide⟩ rfl rfl (Nat.le_of_ble_eq_true rfl) (m_latCharAt hO hX a4 hj (by omega) a6j ?_)
    dsimp only [Option.toList, List.cons_append, List.nil_append]
    refine x_iret dJ0_charAt_5068e_15 rfl (c255 (by omega)).2 ?_
    exact hq

