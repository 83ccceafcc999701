/-! StringBuilder *)-/
theorem up2_f {α : Type} {f : Nat → Nat → α} {a k b : Nat} {v : α} (h : b ≠ a) : up2 f a k v b = f b := funext fun _ => up2_n fun q => h q.1
theorem shl0 {x : Int32} : x <<< ((0 : Int32) &&& 31) = x := by
  have h : ((0 : Int32) &&& 31) = 0 := by decide
  rw [h]
  exact Int32.shiftLeft_zero
/-- the array h + 1 of a StringBuilder h *)-/
def SbS (C : AH) (h : Nat) : Prop := gK C h = 1 ∧ gR C h 0 = some (h + 1) ∧ gK C (h + 1) = 23 ∧ gN C (h + 1) = 16
def SbV (f : Nat → Nat → Int32) (h : Nat) (w : List Nat) : Prop := f h 1 = 0 ∧ f h 3 = nI w.length ∧ (∀ j, j < w.length → f (h + 1) j = nI (w.getD j 0)) ∧ ∀ j, w.getD j 0 < 128
def SbF (f g : Nat → Nat → Int32) (h : Nat) : Prop := ∀ a, a ≠ h → a ≠ h + 1 → f a = g a
theorem SbF_t {f g k : Nat → Nat → Int32} {h : Nat} (a : SbF f g h) (b : SbF g k h) : SbF f k h := fun x p q => (a x p q).trans (b x p q)
theorem getD_ap {w u : List Nat} {j : Nat} : (w ++ u).getD j 0 = if j < w.length then w.getD j 0 else u.getD (j - w.length) 0 := by
  simp only [List.getD_eq_getElem?_getD, List.getElem?_append]
  split <;> rfl
theorem SbV_ap {f g : Nat → Nat → Int32} {h : Nat} {w u : List Nat} (hV : SbV g h w) (h1 : f h 1 = 0) (h3 : f h 3 = nI (w.length + u.length)) (ho : ∀ j, j < w.length → f (h + 1) j = g (h + 1) j) (hn : ∀ j, j < u.length → f (h + 1) (w.length + j) = nI (u.getD j 0)) (hu : ∀ j, u.getD j 0 < 128) : SbV f h (w ++ u) := by
  refine ⟨h1, h3.trans (congrArg nI List.length_append.symm), fun j hj => ?_, fun j => ?_⟩
  · rw [getD_ap]
    by_cases e : j < w.length
    · rw [if_pos e, ho j e]; exact hV.2.2.1 j e
    · rw [if_neg e]
      rw [List.length_append] at hj
      have := hn (j - w.length) (by omega)
      rw [show w.length + (j - w.length) = j by omega] at this
      exact this
  · rw [getD_ap]
    split
    · exact hV.2.2.2 j
    · exact hu _
theorem nI_add' {a b : Nat} : nI a + nI b = nI (a + b) := by rw [nI_add]
theorem i2b_128 {c : Nat} (h : c < 128) : (nI c).toInt8.toInt32 = nI c ∧ narrow .byte (.int (nI c)) = .int (nI c) ∧ fits .byte (.int (nI c)) = true ∧ ¬ nI 255 < nI c := by
  have q : ∀ c : Fin 128, (nI c.val).toInt8.toInt32 = nI c.val ∧ narrow .byte (.int (nI c.val)) = .int (nI c.val) ∧ fits .byte (.int (nI c.val)) = true ∧ ¬ nI 255 < nI c.val := by decide +kernel
  exact q ⟨c, h⟩
theorem cap16 {x : Nat} (h : x ≤ 16) : nI x - nI 16 ≤ 0 := by
  have q : ∀ c : Fin 17, nI c.val - nI 16 ≤ 0 := by decide +kernel
  exact q ⟨x, by omega⟩
/-- the digits of a number below 1000 *)-/
def dgs (v : Nat) : List Nat := if v < 10 then [48 + v] else if v < 100 then [48 + v / 10, 48 + v % 10] else [48 + v / 100, 48 + v / 10 % 10, 48 + v % 10]
theorem dgs_ok {v : Nat} (h : v < 1000) : 1 ≤ (dgs v).length ∧ (dgs v).length ≤ 3 ∧ ∀ j, (dgs v).getD j 0 < 128 := by
  have k : ∀ w : List Nat, (∀ c, c ∈ w → c < 128) → ∀ j, w.getD j 0 < 128 := by
    intro w hw j
    rw [List.getD_eq_getElem?_getD]
    cases e : w[j]? with
    | none => show 0 < 128; omega
    | some c => exact hw c (List.mem_of_getElem? e)
  unfold dgs
  split
  · exact ⟨Nat.le_of_ble_eq_true rfl, Nat.le_of_ble_eq_true rfl, k _ (by simp; omega)⟩
  · split
    · exact ⟨Nat.le_of_ble_eq_true rfl, Nat.le_of_ble_eq_true rfl, k _ (by simp; omega)⟩
    · exact ⟨Nat.le_of_ble_eq_true rfl, Nat.le_of_ble_eq_true rfl, k _ (by simp; omega)⟩
theorem ng1000 {v : Nat} (h : v < 1000) : (-(nI v) ≤ -10 ↔ 10 ≤ v) ∧ (-(nI v) ≤ -100 ↔ 100 ≤ v) ∧ (¬ -(nI v) ≤ -1000) ∧ (-(nI v) ≤ (-10 : Int32) * 10 ↔ 100 ≤ v) := by
  have q : ∀ v : Fin 1000, (-(nI v.val) ≤ -10 ↔ 10 ≤ v.val) ∧ (-(nI v.val) ≤ -100 ↔ 100 ≤ v.val) ∧ (¬ -(nI v.val) ≤ -1000) ∧ (-(nI v.val) ≤ (-10 : Int32) * 10 ↔ 100 ≤ v.val) := by decide +kernel
  exact q ⟨v, h⟩
theorem ngd {v : Nat} (h : v < 1000) : (-100 < -(nI v) ↔ v < 100) ∧ (-9 ≤ -(nI v) ↔ v < 10) ∧ -(nI v) / nI 100 = -(nI (v / 100)) ∧ -(nI (v / 100)) * nI 100 - -(nI v) = nI (v % 100) ∧ - -(nI v) = nI v := by
  have q : ∀ v : Fin 1000, (-100 < -(nI v.val) ↔ v.val < 100) ∧ (-9 ≤ -(nI v.val) ↔ v.val < 10) ∧ -(nI v.val) / nI 100 = -(nI (v.val / 100)) ∧ -(nI (v.val / 100)) * nI 100 - -(nI v.val) = nI (v.val % 100) ∧ - -(nI v.val) = nI v.val := by decide +kernel
  exact q ⟨v, h⟩
theorem j_isLatin1 {G : GT} {C : AH} {Q : QT} {X : XT} {sa va : Nat → Nat} {h : Nat} (hO : GO G) (hX : GX G sa va) (hS : SbS C h) (h1 : gI C h 1 = 0) (hq : Q (some (.int 1)) C) : Mt G M_J5_isLatin1_aae02 [.ref h] C Q X := by
  refine Mt_of (by decide) (Nat.le_of_ble_eq_true rfl) ?_
  obtain ⟨kh, rh, kv, nv⟩ := id hS
  refine x_getsZ hO hX.2.2.2.2.2.2.1 dJ5_isLatin1_aae02_0 f_J5_18 ?_
  refine x_if_eq (tgt := 17) dJ5_isLatin1_aae02_3 (by decide) (fun c3 => ?_) (fun c3 => ?_)
  · exact absurd c3 (by decide)
  · refine x_aload_n dJ5_isLatin1_aae02_6 rfl ?_
    refine x_get 1 hO dJ5_isLatin1_aae02_7 f_J5_22 (by first | (simp only [gK_wI]; assumption) | assumption) ⟨by decide, by decide⟩ (v := .int 0) (congrArg Value.int h1) ?_
    refine x_if_ne (tgt := 17) dJ5_isLatin1_aae02_10 (by decide) (fun c10 => ?_) (fun c10 => ?_)
    · exact absurd rfl c10
    · refine x_iconst (v := nI 1) dJ5_isLatin1_aae02_13 (by decide) ?_
      refine x_goto (tgt := 18) dJ5_isLatin1_aae02_14 (by decide) ?_
      refine x_iret dJ5_isLatin1_aae02_18 rfl (by first | rfl | assumption) ?_
      exact hq
theorem j_ensure {G : GT} {C : AH} {Q : QT} {X : XT} {sa va : Nat → Nat} {h : Nat} {x : Nat} (hO : GO G) (hX : GX G sa va) (hS : SbS C h) (h1 : gI C h 1 = 0) (hx : x ≤ 16) (hq : Q none C) : Mt G M_J5_ensureCapacityInternal_d00df [.ref h, .int (nI x)] C Q X := by
  refine Mt_of (by decide) (Nat.le_of_ble_eq_true rfl) ?_
  obtain ⟨kh, rh, kv, nv⟩ := id hS
  refine x_aload_n dJ5_ensureCapacityInternal_d00df_0 rfl ?_
  refine x_get 1 hO dJ5_ensureCapacityInternal_d00df_1 f_J5_15 (by first | (simp only [gK_wI]; assumption) | assumption) ⟨by decide, by decide⟩ (v := .ref (h + 1)) (congrArg va_rf rh) ?_
  refine x_alen 23 _ hO dJ5_ensureCapacityInternal_d00df_4 (by first | (simp only [gK_wI]; assumption) | assumption) ⟨by decide, by decide⟩ (by first | (simp only [gN_wI]; assumption) | assumption) ?_
  refine x_aload_n dJ5_ensureCapacityInternal_d00df_5 rfl ?_
  refine x_get 1 hO dJ5_ensureCapacityInternal_d00df_6 f_J5_22 (by first | (simp only [gK_wI]; assumption) | assumption) ⟨by decide, by decide⟩ (v := .int 0) (congrArg Value.int h1) ?_
  refine x_ishr dJ5_ensureCapacityInternal_d00df_9 ?_
  rw [shr0]
  refine x_istore_n dJ5_ensureCapacityInternal_d00df_10 (by decide) ?_
  refine x_iload_n dJ5_ensureCapacityInternal_d00df_11 rfl ?_
  refine x_iload_n dJ5_ensureCapacityInternal_d00df_12 rfl ?_
  refine x_isub dJ5_ensureCapacityInternal_d00df_13 ?_
  refine x_if_le (tgt := 38) dJ5_ensureCapacityInternal_d00df_14 (by decide) (fun c14 => ?_) (fun c14 => ?_)
  · refine x_ret dJ5_ensureCapacityInternal_d00df_38 rfl ?_
    exact hq
  · exact absurd (cap16 hx) c14
theorem j_canEncode {G : GT} {C : AH} {Q : QT} {X : XT} {c : Nat} (hc : c < 128) (hq : Q (some (.int 1)) C) : Mt G M_J1_canEncode_fc78d [.int (nI c)] C Q X := by
  refine Mt_of (by decide) (Nat.le_of_ble_eq_true rfl) ?_
  refine x_iload_n dJ1_canEncode_fc78d_0 rfl ?_
  refine x_sipush (v := nI 255) dJ1_canEncode_fc78d_1 (by decide) ?_
  refine x_icmp_gt (tgt := 11) dJ1_canEncode_fc78d_4 (by decide) (fun c4 => ?_) (fun c4 => ?_)
  · exact absurd c4 (i2b_128 hc).2.2.2
  · refine x_iconst (v := nI 1) dJ1_canEncode_fc78d_7 (by decide) ?_
    refine x_goto (tgt := 12) dJ1_canEncode_fc78d_8 (by decide) ?_
    refine x_iret dJ1_canEncode_fc78d_12 rfl (by first | rfl | assumption) ?_
    exact hq

theorem j_appendC {G : GT} {C : AH} {Q : QT} {X : XT} {sa va : Nat → Nat} {h : Nat} {w : List Nat} {c : Nat} (hO : GO G) (hX : GX G sa va) (hS : SbS C h) (hV : SbV (gI C) h w) (hc : c < 128) (hl : w.length < 16) (hq : ∀ f : Nat → Nat → Int32, SbV f h (w ++ [c]) → SbF f (gI C) h → Q (some (.ref h)) (wI C f)) : Mt G M_J5_append_3fe6f [.ref h, .int (nI c)] C Q X := by
  refine Mt_of (by decide) (Nat.le_of_ble_eq_true rfl) ?_
  obtain ⟨kh, rh, kv, nv⟩ := id hS
  obtain ⟨v1, v3, vw, vc⟩ := id hV
  refine x_aload_n dJ5_append_3fe6f_0 rfl ?_
  refine x_aload_n dJ5_append_3fe6f_1 rfl ?_
  refine x_get 1 hO dJ5_append_3fe6f_2 f_J5_79 (by first | (simp only [gK_wI]; assumption) | assumption) ⟨by decide, by decide⟩ (v := .int (nI w.length)) (congrArg Value.int v3) ?_
  refine x_iconst (v := nI 1) dJ5_append_3fe6f_5 (by decide) ?_
  refine x_iadd dJ5_append_3fe6f_6 ?_
  rw [nI_add]
  refine x_callU (As := [_]) hO dJ5_append_3fe6f_7 o_J5_ensureCapacityInternal_d00df i_J5_ensureCapacityInternal_d00df sm_ensureCapacityInternal_d00df (se_ensureCapacityInternal_d00df hO) l_J5_100 ⟨by decide, by decide⟩ (by first | (simp only [gK_wI]; assumption) | assumption) ⟨by decide, by decide⟩ rfl rfl (Nat.le_of_ble_eq_true rfl) (j_ensure hO hX hS v1 (by omega) ?_)
  dsimp only [Option.toList, List.cons_append, List.nil_append]
  refine x_aload_n dJ5_append_3fe6f_10 rfl ?_
  refine x_callU (As := []) hO dJ5_append_3fe6f_11 o_J5_isLatin1_aae02 i_J5_isLatin1_aae02 sm_isLatin1_aae02 (se_isLatin1_aae02 hO) l_J5_83 ⟨by decide, by decide⟩ (by first | (simp only [gK_wI]; assumption) | assumption) ⟨by decide, by decide⟩ rfl rfl (Nat.le_of_ble_eq_true rfl) (j_isLatin1 hO hX hS v1 ?_)
  dsimp only [Option.toList, List.cons_append, List.nil_append]
  refine x_if_eq (tgt := 45) dJ5_append_3fe6f_14 (by decide) (fun c14 => ?_) (fun c14 => ?_)
  · exact absurd c14 (by decide)
  · refine x_iload_n dJ5_append_3fe6f_17 rfl ?_
    refine x_callS (As := [_]) hO dJ5_append_3fe6f_18 o_J1_canEncode_fc78d s_J1_canEncode_fc78d l_J5_191 ⟨by decide, by decide⟩ ⟨by decide, by decide⟩ rfl rfl (Nat.le_of_ble_eq_true rfl) (j_canEncode hc ?_)
    dsimp only [Option.toList, List.cons_append, List.nil_append]
    refine x_if_eq (tgt := 45) dJ5_append_3fe6f_21 (by decide) (fun c21 => ?_) (fun c21 => ?_)
    · exact absurd c21 (by decide)
    · refine x_aload_n dJ5_append_3fe6f_24 rfl ?_
      refine x_get 1 hO dJ5_append_3fe6f_25 f_J5_15 (by first | (simp only [gK_wI]; assumption) | assumption) ⟨by decide, by decide⟩ (v := .ref (h + 1)) (congrArg va_rf rh) ?_
      refine x_aload_n dJ5_append_3fe6f_28 rfl ?_
      refine x_dup dJ5_append_3fe6f_29 rfl ?_
      refine x_get 1 hO dJ5_append_3fe6f_30 f_J5_79 (by first | (simp only [gK_wI]; assumption) | assumption) ⟨by decide, by decide⟩ (v := .int (nI w.length)) (congrArg Value.int v3) ?_
      refine x_dup_x1 dJ5_append_3fe6f_33 rfl rfl ?_
      refine x_iconst (v := nI 1) dJ5_append_3fe6f_34 (by decide) ?_
      refine x_iadd dJ5_append_3fe6f_35 ?_
      rw [nI_add]
      refine x_putI 1 hO dJ5_append_3fe6f_36 f_J5_79 (fw_1_3 _) (by first | (simp only [gK_wI]; assumption) | assumption) ⟨by decide, by decide⟩ rfl rfl ?_
      refine x_iload_n dJ5_append_3fe6f_39 rfl ?_
      refine x_i2b dJ5_append_3fe6f_40 ?_
      rw [(i2b_128 hc).1]
      refine x_bast w.length 16 (i2b_128 hc).2.1 hO dJ5_append_3fe6f_41 kv rfl nv hl (by decide) ?_
      refine x_goto (tgt := 75) dJ5_append_3fe6f_42 (by decide) ?_
      refine x_aload_n dJ5_append_3fe6f_75 rfl ?_
      refine x_aret (r := some _) dJ5_append_3fe6f_76 rfl (by first | exact Or.inl ⟨_, rfl⟩ | exact Or.inr ⟨_, rfl⟩) ?_
      try simp only [wI_wI, gI_wI]
      refine hq _ (SbV_ap hV ?_ ?_ (fun j hj => ?_) (fun j hj => ?_) (fun j => ?_)) (fun a q1 q2 => ?_)
      · rw [up2_f (by omega), up2_n (by omega)]
        exact v1
      · rw [up2_f (by omega), up2_s]
        rfl
      · rw [up2_n (by omega), up2_f (by omega)]
      · have : j = 0 := by
          have : j < 1 := hj
          omega
        subst this
        exact up2_s
      · cases j with
        | zero => exact hc
        | succ j => show 0 < 128; omega
      · rw [up2_f q2, up2_f q1]

theorem m_stringSize {G : GT} {C : AH} {Q : QT} {X : XT} {v : Nat} (hv : v < 1000) (hq : Q (some (.int (nI (dgs v).length))) C) : Mt G M_J6_stringSize_0f7a4 [.int (nI v)] C Q X := by
  refine Mt_of (by decide) (Nat.le_of_ble_eq_true rfl) ?_
  have L3 : 100 ≤ v → Ex G M_J6_stringSize_0f7a4 Q X (mC M_J6_stringSize_0f7a4) (mS M_J6_stringSize_0f7a4) 16 [(0, .int (-(nI v))), (1, .int 0), (2, .int (-1000)), (3, .int (nI 3))] [] C := fun h3 => by
    refine x_iload_n dJ6_stringSize_0f7a4_16 rfl ?_
    refine x_bipush (v := nI 10) dJ6_stringSize_0f7a4_17 (by decide) ?_
    refine x_icmp_ge (tgt := 42) dJ6_stringSize_0f7a4_19 (by decide) (fun c19 => ?_) (fun c19 => ?_)
    · exact absurd c19 (by decide)
    · refine x_iload_n dJ6_stringSize_0f7a4_22 rfl ?_
      refine x_iload_n dJ6_stringSize_0f7a4_23 rfl ?_
      refine x_icmp_le (tgt := 31) dJ6_stringSize_0f7a4_24 (by decide) (fun c24 => ?_) (fun c24 => ?_)
      · exact absurd c24 (ng1000 hv).2.2.1
      · refine x_iload_n dJ6_stringSize_0f7a4_27 rfl ?_
        refine x_iload_n dJ6_stringSize_0f7a4_28 rfl ?_
        refine x_iadd dJ6_stringSize_0f7a4_29 ?_
        refine x_iret dJ6_stringSize_0f7a4_30 rfl rfl ?_
        have hl := h3
        have e : (dgs v).length = 3 := by
          unfold dgs
          rw [if_neg (by omega), if_neg (by omega)]; rfl
        rw [e] at hq
        exact hq
  have L2 : 10 ≤ v → Ex G M_J6_stringSize_0f7a4 Q X (mC M_J6_stringSize_0f7a4) (mS M_J6_stringSize_0f7a4) 16 [(0, .int (-(nI v))), (1, .int 0), (2, .int (-100)), (3, .int (nI 2))] [] C := fun h2 => by
    refine x_iload_n dJ6_stringSize_0f7a4_16 rfl ?_
    refine x_bipush (v := nI 10) dJ6_stringSize_0f7a4_17 (by decide) ?_
    refine x_icmp_ge (tgt := 42) dJ6_stringSize_0f7a4_19 (by decide) (fun c19 => ?_) (fun c19 => ?_)
    · exact absurd c19 (by decide)
    · refine x_iload_n dJ6_stringSize_0f7a4_22 rfl ?_
      refine x_iload_n dJ6_stringSize_0f7a4_23 rfl ?_
      refine x_icmp_le (tgt := 31) dJ6_stringSize_0f7a4_24 (by decide) (fun c24 => ?_) (fun c24 => ?_)
      · refine x_bipush (v := nI 10) dJ6_stringSize_0f7a4_31 (by decide) ?_
        refine x_iload_n dJ6_stringSize_0f7a4_33 rfl ?_
        refine x_imul dJ6_stringSize_0f7a4_34 ?_
        refine x_istore_n dJ6_stringSize_0f7a4_35 (by decide) ?_
        refine x_iinc (v := nI 1) dJ6_stringSize_0f7a4_36 rfl (by decide) (by decide) ?_
        refine x_goto (tgt := 16) dJ6_stringSize_0f7a4_39 (by decide) ?_
        refine x_ls [(0, .int (-(nI v))), (1, .int 0), (2, .int (-1000)), (3, .int (nI 3))] ⟨rfl, rfl, rfl, rfl, trivial⟩ ?_
        exact L3 ((ng1000 hv).2.1.mp c24)
      · refine x_iload_n dJ6_stringSize_0f7a4_27 rfl ?_
        refine x_iload_n dJ6_stringSize_0f7a4_28 rfl ?_
        refine x_iadd dJ6_stringSize_0f7a4_29 ?_
        refine x_iret dJ6_stringSize_0f7a4_30 rfl rfl ?_
        have hl := Nat.lt_of_not_le fun q => c24 ((ng1000 hv).2.1.mpr q)
        have e : (dgs v).length = 2 := by
          unfold dgs
          rw [if_neg (by omega), if_pos (by omega)]; rfl
        rw [e] at hq
        exact hq
  have L1 : Ex G M_J6_stringSize_0f7a4 Q X (mC M_J6_stringSize_0f7a4) (mS M_J6_stringSize_0f7a4) 16 [(0, .int (-(nI v))), (1, .int 0), (2, .int (-10)), (3, .int (nI 1))] [] C := by
    refine x_iload_n dJ6_stringSize_0f7a4_16 rfl ?_
    refine x_bipush (v := nI 10) dJ6_stringSize_0f7a4_17 (by decide) ?_
    refine x_icmp_ge (tgt := 42) dJ6_stringSize_0f7a4_19 (by decide) (fun c19 => ?_) (fun c19 => ?_)
    · exact absurd c19 (by decide)
    · refine x_iload_n dJ6_stringSize_0f7a4_22 rfl ?_
      refine x_iload_n dJ6_stringSize_0f7a4_23 rfl ?_
      refine x_icmp_le (tgt := 31) dJ6_stringSize_0f7a4_24 (by decide) (fun c24 => ?_) (fun c24 => ?_)
      · refine x_bipush (v := nI 10) dJ6_stringSize_0f7a4_31 (by decide) ?_
        refine x_iload_n dJ6_stringSize_0f7a4_33 rfl ?_
        refine x_imul dJ6_stringSize_0f7a4_34 ?_
        refine x_istore_n dJ6_stringSize_0f7a4_35 (by decide) ?_
        refine x_iinc (v := nI 1) dJ6_stringSize_0f7a4_36 rfl (by decide) (by decide) ?_
        refine x_goto (tgt := 16) dJ6_stringSize_0f7a4_39 (by decide) ?_
        refine x_ls [(0, .int (-(nI v))), (1, .int 0), (2, .int (-100)), (3, .int (nI 2))] ⟨rfl, rfl, rfl, rfl, trivial⟩ ?_
        exact L2 ((ng1000 hv).1.mp c24)
      · refine x_iload_n dJ6_stringSize_0f7a4_27 rfl ?_
        refine x_iload_n dJ6_stringSize_0f7a4_28 rfl ?_
        refine x_iadd dJ6_stringSize_0f7a4_29 ?_
        refine x_iret dJ6_stringSize_0f7a4_30 rfl rfl ?_
        have hl := Nat.lt_of_not_le fun q => c24 ((ng1000 hv).1.mpr q)
        have e : (dgs v).length = 1 := by
          unfold dgs
          rw [if_pos (by omega)]; rfl
        rw [e] at hq
        exact hq
  refine x_iconst (v := nI 1) dJ6_stringSize_0f7a4_0 (by decide) ?_
  refine x_istore_n dJ6_stringSize_0f7a4_1 (by decide) ?_
  refine x_iload_n dJ6_stringSize_0f7a4_2 rfl ?_
  refine x_if_lt (tgt := 11) dJ6_stringSize_0f7a4_3 (by decide) (fun c3 => ?_) (fun c3 => ?_)
  · exact absurd c3 (nI_pos (by omega))
  · refine x_iconst (v := nI 0) dJ6_stringSize_0f7a4_6 (by decide) ?_
    refine x_istore_n dJ6_stringSize_0f7a4_7 (by decide) ?_
    refine x_iload_n dJ6_stringSize_0f7a4_8 rfl ?_
    refine x_ineg dJ6_stringSize_0f7a4_9 ?_
    refine x_istore_n dJ6_stringSize_0f7a4_10 (by decide) ?_
    refine x_bipush (v := (-10)) dJ6_stringSize_0f7a4_11 (by decide) ?_
    refine x_istore_n dJ6_stringSize_0f7a4_13 (by decide) ?_
    refine x_iconst (v := nI 1) dJ6_stringSize_0f7a4_14 (by decide) ?_
    refine x_istore_n dJ6_stringSize_0f7a4_15 (by decide) ?_
    refine x_ls [(0, .int (-(nI v))), (1, .int 0), (2, .int (-10)), (3, .int (nI 1))] ⟨rfl, rfl, rfl, rfl, trivial⟩ ?_
    exact L1

theorem m_getChars {G : GT} {C : AH} {Q : QT} {X : XT} {sa va : Nat → Nat} {b N9 v p : Nat} (hO : GO G) (hX : GX G sa va) (kb : gK C b = 23) (nb : gN C b = N9) (hN9 : N9 < 1000000) (hv : v < 1000) (hl : p + (dgs v).length ≤ N9) (hq : ∀ f : Nat → Nat → Int32, (∀ i, i < (dgs v).length → f b (p + i) = nI ((dgs v).getD i 0)) → (∀ j, (j < p ∨ p + (dgs v).length ≤ j) → f b j = gI C b j) → (∀ a, a ≠ b → f a = gI C a) → ∀ r : Int32, Q (some (.int r)) (wI C f)) : Mt G M_J6_getChars_ba4f3 [.int (nI v), .int (nI (p + (dgs v).length)), .ref b] C Q X := by
  refine Mt_of (by decide) (Nat.le_of_ble_eq_true rfl) ?_
  obtain ⟨a1, za1, ta1⟩ := hX.2.2.2.2.2.2.2.1
  obtain ⟨a2, za2, ta2⟩ := hX.2.2.2.2.2.2.2.2.1
  have T72 : ∀ (u p : Nat) (f : Nat → Nat → Int32), u < 100 → p + (dgs u).length ≤ N9 → (∀ g : Nat → Nat → Int32, (∀ i, i < (dgs u).length → g b (p + i) = nI ((dgs u).getD i 0)) → (∀ j, (j < p ∨ p + (dgs u).length ≤ j) → g b j = f b j) → (∀ a, a ≠ b → g a = f a) → ∀ r : Int32, Q (some (.int r)) (wI C g)) → Ex G M_J6_getChars_ba4f3 Q X (mC M_J6_getChars_ba4f3) (mS M_J6_getChars_ba4f3) 72 [(0, .int (-(nI (u)))), (2, .ref b), (5, .int (nI (p + (dgs u).length))), (6, .int 0)] [] (wI C f) := by
    intro u p f hu9 hp hk
    have hu100 := hu9
    have hu9 : u < 1000 := by omega
    by_cases hu : u < 10
    · have e : dgs u = [48 + u] := if_pos hu
      rw [e] at hk hp ⊢
      have hp : p + 1 ≤ N9 := hp
      rw [show p + [48 + u].length = p + 1 from rfl]
      refine x_aload_n dJ6_getChars_ba4f3_72 rfl ?_
      refine x_iinc (v := (-1)) dJ6_getChars_ba4f3_73 rfl (by decide) (by decide) ?_
      rw [show nI (p + 1) + -1 = nI (p) from nI_dec]
      refine x_iload dJ6_getChars_ba4f3_76 rfl ?_
      refine x_getsZ hO za1 dJ6_getChars_ba4f3_78 f_J6_83 ?_
      refine x_iload_n dJ6_getChars_ba4f3_81 rfl ?_
      refine x_ineg dJ6_getChars_ba4f3_82 ?_
      rw [(ngd hu9).2.2.2.2]
      refine x_tbld u ta1 dJ6_getChars_ba4f3_83 rfl (by omega) (by decide) ?_
      rw [show dgO u = nI (48 + u % 10) from rfl]
      refine x_bast (p) N9 (i2b_128 (c := 48 + u % 10) (by omega)).2.1 hO dJ6_getChars_ba4f3_84 kb rfl nb (by omega) (by omega) ?_
      try simp only [wI_wI, gI_wI]
      refine x_iload_n dJ6_getChars_ba4f3_85 rfl ?_
      refine x_bipush (v := (-9)) dJ6_getChars_ba4f3_86 (by decide) ?_
      refine x_icmp_ge (tgt := 104) dJ6_getChars_ba4f3_88 (by decide) (fun c88 => ?_) (fun c88 => ?_)
      · refine x_iload dJ6_getChars_ba4f3_104 rfl ?_
        refine x_if_eq (tgt := 118) dJ6_getChars_ba4f3_106 (by decide) (fun c106 => ?_) (fun c106 => ?_)
        · refine x_iload dJ6_getChars_ba4f3_118 rfl ?_
          refine x_iret dJ6_getChars_ba4f3_120 rfl rfl ?_
          refine hk _ (fun i hi => ?_) (fun j hj => ?_) (fun a ha => up2_f ha) _
          · have : i = 0 := by
              have : i < 1 := hi
              omega
            subst this
            show up2 f b p (nI (48 + u % 10)) b (p + 0) = nI (48 + u)
            rw [Nat.add_zero, up2_s, Nat.mod_eq_of_lt hu]
          · have hj : j < p ∨ p + 1 ≤ j := hj
            exact up2_n (by omega)
        · exact absurd rfl c106
      · exact absurd ((ngd hu9).2.1.mpr hu) c88
    · have e : dgs u = [48 + u / 10, 48 + u % 10] := (if_neg hu).trans (if_pos hu100)
      rw [e] at hk hp ⊢
      have hp : p + 2 ≤ N9 := hp
      rw [show p + [48 + u / 10, 48 + u % 10].length = p + 2 from rfl]
      refine x_aload_n dJ6_getChars_ba4f3_72 rfl ?_
      refine x_iinc (v := (-1)) dJ6_getChars_ba4f3_73 rfl (by decide) (by decide) ?_
      rw [show nI (p + 2) + -1 = nI (p + 1) from nI_dec]
      refine x_iload dJ6_getChars_ba4f3_76 rfl ?_
      refine x_getsZ hO za1 dJ6_getChars_ba4f3_78 f_J6_83 ?_
      refine x_iload_n dJ6_getChars_ba4f3_81 rfl ?_
      refine x_ineg dJ6_getChars_ba4f3_82 ?_
      rw [(ngd hu9).2.2.2.2]
      refine x_tbld u ta1 dJ6_getChars_ba4f3_83 rfl (by omega) (by decide) ?_
      rw [show dgO u = nI (48 + u % 10) from rfl]
      refine x_bast (p + 1) N9 (i2b_128 (c := 48 + u % 10) (by omega)).2.1 hO dJ6_getChars_ba4f3_84 kb rfl nb (by omega) (by omega) ?_
      try simp only [wI_wI, gI_wI]
      refine x_iload_n dJ6_getChars_ba4f3_85 rfl ?_
      refine x_bipush (v := (-9)) dJ6_getChars_ba4f3_86 (by decide) ?_
      refine x_icmp_ge (tgt := 104) dJ6_getChars_ba4f3_88 (by decide) (fun c88 => ?_) (fun c88 => ?_)
      · exact absurd ((ngd hu9).2.1.mp c88) hu
      · refine x_aload_n dJ6_getChars_ba4f3_91 rfl ?_
        refine x_iinc (v := (-1)) dJ6_getChars_ba4f3_92 rfl (by decide) (by decide) ?_
        rw [show nI (p + 1) + -1 = nI (p) from nI_dec]
        refine x_iload dJ6_getChars_ba4f3_95 rfl ?_
        refine x_getsZ hO za2 dJ6_getChars_ba4f3_97 f_J6_87 ?_
        refine x_iload_n dJ6_getChars_ba4f3_100 rfl ?_
        refine x_ineg dJ6_getChars_ba4f3_101 ?_
        rw [(ngd hu9).2.2.2.2]
        refine x_tbld u ta2 dJ6_getChars_ba4f3_102 rfl (by omega) (by decide) ?_
        rw [show dgT u = nI (48 + u / 10) from rfl]
        refine x_bast (p) N9 (i2b_128 (c := 48 + u / 10) (by omega)).2.1 hO dJ6_getChars_ba4f3_103 kb rfl nb (by omega) (by omega) ?_
        try simp only [wI_wI, gI_wI]
        refine x_iload dJ6_getChars_ba4f3_104 rfl ?_
        refine x_if_eq (tgt := 118) dJ6_getChars_ba4f3_106 (by decide) (fun c106 => ?_) (fun c106 => ?_)
        · refine x_iload dJ6_getChars_ba4f3_118 rfl ?_
          refine x_iret dJ6_getChars_ba4f3_120 rfl rfl ?_
          refine hk _ (fun i hi => ?_) (fun j hj => ?_) (fun a ha => (up2_f ha).trans (up2_f ha)) _
          · have hi : i < 2 := hi
            rcases (show i = 0 ∨ i = 1 by omega) with rfl | rfl
            · show up2 (up2 f b (p + 1) (nI (48 + u % 10))) b p (nI (48 + u / 10)) b p = nI (48 + u / 10)
              exact up2_s
            · show up2 (up2 f b (p + 1) (nI (48 + u % 10))) b p (nI (48 + u / 10)) b (p + 1) = nI (48 + u % 10)
              rw [up2_n (by omega), up2_s]
          · have hj : j < p ∨ p + 2 ≤ j := hj
            rw [up2_n (by omega), up2_n (by omega)]
        · exact absurd rfl c106
  have T22 : ∀ (u p : Nat) (f : Nat → Nat → Int32), u < 100 → p + (dgs u).length ≤ N9 → (∀ g : Nat → Nat → Int32, (∀ i, i < (dgs u).length → g b (p + i) = nI ((dgs u).getD i 0)) → (∀ j, (j < p ∨ p + (dgs u).length ≤ j) → g b j = f b j) → (∀ a, a ≠ b → g a = f a) → ∀ r : Int32, Q (some (.int r)) (wI C g)) → Ex G M_J6_getChars_ba4f3 Q X (mC M_J6_getChars_ba4f3) (mS M_J6_getChars_ba4f3) 22 [(0, .int (-(nI (u)))), (2, .ref b), (5, .int (nI (p + (dgs u).length))), (6, .int 0)] [] (wI C f) := by
    intro u p f hu hp hk
    refine x_iload_n dJ6_getChars_ba4f3_22 rfl ?_
    refine x_bipush (v := (-100)) dJ6_getChars_ba4f3_23 (by decide) ?_
    refine x_icmp_gt (tgt := 72) dJ6_getChars_ba4f3_25 (by decide) (fun c25 => ?_) (fun c25 => ?_)
    · exact T72 u p f hu hp hk
    · exact absurd ((ngd (by omega)).1.mpr hu) c25
  by_cases h3 : v < 100
  · skip
    refine x_iload_n dJ6_getChars_ba4f3_0 rfl ?_
    refine x_istore dJ6_getChars_ba4f3_1 (by decide) ?_
    refine x_iload_n dJ6_getChars_ba4f3_3 rfl ?_
    refine x_if_ge (tgt := 11) dJ6_getChars_ba4f3_4 (by decide) (fun c4 => ?_) (fun c4 => ?_)
    · refine x_iconst (v := nI 0) dJ6_getChars_ba4f3_11 (by decide) ?_
      refine x_istore dJ6_getChars_ba4f3_12 (by decide) ?_
      refine x_iload dJ6_getChars_ba4f3_14 rfl ?_
      refine x_if_ne (tgt := 22) dJ6_getChars_ba4f3_16 (by decide) (fun c16 => ?_) (fun c16 => ?_)
      · exact absurd rfl c16
      · refine x_iload_n dJ6_getChars_ba4f3_19 rfl ?_
        refine x_ineg dJ6_getChars_ba4f3_20 ?_
        refine x_istore_n dJ6_getChars_ba4f3_21 (by decide) ?_
        refine x_ls [(0, .int (-(nI (v)))), (2, .ref b), (5, .int (nI (p + (dgs v).length))), (6, .int 0)] ⟨rfl, rfl, rfl, rfl, trivial⟩ ?_
        exact T22 v p (gI C) h3 hl fun g g1 g2 g3 r => hq g g1 g2 g3 r
    · exact absurd (show nI 0 ≤ nI v from (nI_leI (by decide) (by omega)).mpr (Nat.zero_le v)) c4
  · have e1 : (dgs (v / 100)).length = 1 := by
      unfold dgs
      rw [if_pos (by omega)]
      rfl
    have e2 : dgs (v / 100) = [48 + v / 100] := if_pos (by omega)
    have e3 : dgs v = [48 + v / 100, 48 + v / 10 % 10, 48 + v % 10] := (if_neg (by omega)).trans (if_neg h3)
    rw [e3] at hl ⊢
    have hl : p + 3 ≤ N9 := hl
    rw [show p + [48 + v / 100, 48 + v / 10 % 10, 48 + v % 10].length = p + 3 from rfl]
    refine x_iload_n dJ6_getChars_ba4f3_0 rfl ?_
    refine x_istore dJ6_getChars_ba4f3_1 (by decide) ?_
    refine x_iload_n dJ6_getChars_ba4f3_3 rfl ?_
    refine x_if_ge (tgt := 11) dJ6_getChars_ba4f3_4 (by decide) (fun c4 => ?_) (fun c4 => ?_)
    · refine x_iconst (v := nI 0) dJ6_getChars_ba4f3_11 (by decide) ?_
      refine x_istore dJ6_getChars_ba4f3_12 (by decide) ?_
      refine x_iload dJ6_getChars_ba4f3_14 rfl ?_
      refine x_if_ne (tgt := 22) dJ6_getChars_ba4f3_16 (by decide) (fun c16 => ?_) (fun c16 => ?_)
      · exact absurd rfl c16
      · refine x_iload_n dJ6_getChars_ba4f3_19 rfl ?_
        refine x_ineg dJ6_getChars_ba4f3_20 ?_
        refine x_istore_n dJ6_getChars_ba4f3_21 (by decide) ?_
        refine x_ls [(0, .int (-(nI (v)))), (2, .ref b), (5, .int (nI (p + 3))), (6, .int 0)] ⟨rfl, rfl, rfl, rfl, trivial⟩ ?_
        refine x_iload_n dJ6_getChars_ba4f3_22 rfl ?_
        refine x_bipush (v := (-100)) dJ6_getChars_ba4f3_23 (by decide) ?_
        refine x_icmp_gt (tgt := 72) dJ6_getChars_ba4f3_25 (by decide) (fun c25 => ?_) (fun c25 => ?_)
        · exact absurd ((ngd hv).1.mp c25) (by omega)
        · refine x_iload_n dJ6_getChars_ba4f3_28 rfl ?_
          refine x_bipush (v := nI 100) dJ6_getChars_ba4f3_29 (by decide) ?_
          refine x_idiv dJ6_getChars_ba4f3_31 (by decide) ?_
          rw [(ngd hv).2.2.1]
          refine x_istore_n dJ6_getChars_ba4f3_32 (by decide) ?_
          refine x_iload_n dJ6_getChars_ba4f3_33 rfl ?_
          refine x_bipush (v := nI 100) dJ6_getChars_ba4f3_34 (by decide) ?_
          refine x_imul dJ6_getChars_ba4f3_36 ?_
          refine x_iload_n dJ6_getChars_ba4f3_37 rfl ?_
          refine x_isub dJ6_getChars_ba4f3_38 ?_
          rw [(ngd hv).2.2.2.1]
          refine x_istore dJ6_getChars_ba4f3_39 (by decide) ?_
          refine x_iload_n dJ6_getChars_ba4f3_41 rfl ?_
          refine x_istore_n dJ6_getChars_ba4f3_42 (by decide) ?_
          refine x_aload_n dJ6_getChars_ba4f3_43 rfl ?_
          refine x_iinc (v := (-1)) dJ6_getChars_ba4f3_44 rfl (by decide) (by decide) ?_
          rw [show nI (p + 3) + -1 = nI (p + 2) from nI_dec]
          refine x_iload dJ6_getChars_ba4f3_47 rfl ?_
          refine x_getsZ hO za1 dJ6_getChars_ba4f3_49 f_J6_83 ?_
          refine x_iload dJ6_getChars_ba4f3_52 rfl ?_
          refine x_tbld (v % 100) ta1 dJ6_getChars_ba4f3_54 rfl (by omega) (by decide) ?_
          rw [show dgO (v % 100) = nI (48 + v % 100 % 10) from rfl]
          refine x_bast (p + 2) N9 (i2b_128 (c := 48 + v % 100 % 10) (by omega)).2.1 hO dJ6_getChars_ba4f3_55 kb rfl nb (by omega) (by omega) ?_
          try simp only [wI_wI, gI_wI]
          refine x_aload_n dJ6_getChars_ba4f3_56 rfl ?_
          refine x_iinc (v := (-1)) dJ6_getChars_ba4f3_57 rfl (by decide) (by decide) ?_
          rw [show nI (p + 2) + -1 = nI (p + 1) from nI_dec]
          refine x_iload dJ6_getChars_ba4f3_60 rfl ?_
          refine x_getsZ hO za2 dJ6_getChars_ba4f3_62 f_J6_87 ?_
          refine x_iload dJ6_getChars_ba4f3_65 rfl ?_
          refine x_tbld (v % 100) ta2 dJ6_getChars_ba4f3_67 rfl (by omega) (by decide) ?_
          rw [show dgT (v % 100) = nI (48 + v % 100 / 10) from rfl]
          refine x_bast (p + 1) N9 (i2b_128 (c := 48 + v % 100 / 10) (by omega)).2.1 hO dJ6_getChars_ba4f3_68 kb rfl nb (by omega) (by omega) ?_
          try simp only [wI_wI, gI_wI]
          refine x_goto (tgt := 22) dJ6_getChars_ba4f3_69 (by decide) ?_
          refine x_ls [(0, .int (-(nI (v / 100)))), (2, .ref b), (5, .int (nI (p + (dgs (v / 100)).length))), (6, .int 0)] ⟨rfl, rfl, by rw [e1]; rfl, rfl, trivial⟩ ?_
          refine T22 (v / 100) p _ (by omega) (by rw [e1]; omega) (fun g g1 g2 g3 r => ?_)
          rw [e1] at g1 g2
          refine hq g (fun i hi => ?_) (fun j hj => ?_) (fun a ha => (g3 a ha).trans ((up2_f ha).trans (up2_f ha))) r
          · rw [e3] at hi
            have hi : i < 3 := hi
            rw [e3]
            rcases (show i = 0 ∨ i = 1 ∨ i = 2 by omega) with rfl | rfl | rfl
            · rw [g1 0 (by decide), e2]
              rfl
            · rw [g2 _ (Or.inr (Nat.le_refl _)), up2_s]
              show nI (48 + v % 100 / 10) = nI (48 + v / 10 % 10)
              congr 1; omega
            · rw [g2 _ (by show _ ∨ p + 1 ≤ _; omega), up2_n (by omega), up2_s]
              show nI (48 + v % 100 % 10) = nI (48 + v % 10)
              congr 1; omega
          · rw [e3] at hj
            have hj : j < p ∨ p + 3 ≤ j := hj
            rw [g2 j (by show _ ∨ p + 1 ≤ j; omega), up2_n (by omega), up2_n (by omega)]
    · exact absurd (show nI 0 ≤ nI v from (nI_leI (by decide) (by omega)).mpr (Nat.zero_le v)) c4

