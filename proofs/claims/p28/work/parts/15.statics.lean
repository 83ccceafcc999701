/-! what lies there at the start: Strings, static rows *)-/
def strT : List (String × Nat × String) := [("DepotCharge$Text", 65, "bus"), ("DepotCharge$Text", 75, "plug"), ("DepotCharge$Text", 77, "run"), ("DepotCharge$Text", 79, "set"), ("DepotCharge$Bus", 40, "out"), ("DepotCharge$Bus", 45, "low"), ("DepotCharge$Bus", 47, "full"), ("DepotCharge$Bus", 49, "ok"), ("DepotCharge", 307, "an argument is out of its range"), ("DepotCharge", 54, "the text is full"), ("DepotCharge", 70, "the text is not a depot"), ("DepotCharge", 312, "no such bus"), ("DepotCharge", 165, "no such charger"), ("DepotCharge", 179, "the index is negative"), ("DepotCharge", 202, "there can be no such bus"), ("DepotCharge", 207, "there are as many buses as there can be"), ("DepotCharge", 319, "there are as many chargers as there can be"), ("DepotCharge", 227, "there can be no such route"), ("DepotCharge", 314, "the bus is out"), ("DepotCharge", 247, "there is no such setting, or it can't be so"), ("DepotCharge", 256, "no state is remembered"), ("DepotCharge", 285, "the script is negative or too long"), ("DepotCharge", 321, "no such save slot"), ("DepotCharge", 302, "nothing has been saved in this slot")]
def strW (i : Nat) : List Nat := match i with
  | 0 => [98, 117, 115]
  | 1 => [112, 108, 117, 103]
  | 2 => [114, 117, 110]
  | 3 => [115, 101, 116]
  | 4 => [111, 117, 116]
  | 5 => [108, 111, 119]
  | 6 => [102, 117, 108, 108]
  | 7 => [111, 107]
  | _ => []
def leS (j : Nat) : Int32 := if j = 4 then 1 else 0
def moS (j : Nat) : Int32 := if j = 0 then 250 else if j = 3 then 999 else if j = 5 then 23 else 99
def fiN (j : Nat) : Nat := if j = 0 then 60 else if j = 1 then 5 else if j = 2 then 2 else if j = 3 then 100 else if j = 4 then 20 else 22
def dgO (j : Nat) : Int32 := nI (48 + j % 10)
def dgT (j : Nat) : Int32 := nI (48 + j / 10)
def GX (G : GT) (sa va : Nat → Nat) : Prop :=
  eX G ∧ (∀ (i : Nat) (own : String) (k : Nat) (tx : String), strT[i]? = some (own, k, tx) → eR G own k tx (sa i)) ∧
  (∀ i : Nat, i < 8 → eO G "java/lang/String" (sa i) ∧ eF G "java/lang/String" "coder" "B" (.int 0) (sa i) ∧ eF G "java/lang/String" "value" "[B" (.ref (va i)) (sa i) ∧ eT G .byte (va i) (strW i).length (fun j => .int (nI ((strW i).getD j 0)))) ∧
  (∃ a, eZ G "DepotCharge" "LEAST_SETTINGS" "[I" (.ref a) ∧ eT G .int a 6 (fun j => .int (leS j))) ∧
  (∃ a, eZ G "DepotCharge" "MOST_SETTINGS" "[I" (.ref a) ∧ eT G .int a 6 (fun j => .int (moS j))) ∧
  (∃ a, eZ G "DepotCharge" "FIRST_SETTINGS" "[I" (.ref a) ∧ eT G .int a 6 (fun j => .int (nI (fiN j)))) ∧
  eZ G "java/lang/String" "COMPACT_STRINGS" "Z" (.int 1) ∧
  (∃ a, eZ G "java/lang/Integer" "DigitOnes" "[B" (.ref a) ∧ eT G .byte a 100 (fun j => .int (dgO j))) ∧
  (∃ a, eZ G "java/lang/Integer" "DigitTens" "[B" (.ref a) ∧ eT G .byte a 100 (fun j => .int (dgT j))) ∧
  ∃ r : Option Nat, eZ G "jdk/internal/util/Preconditions" "SIOOBE_FORMATTER" "Ljava/util/function/BiFunction;" (va_rf r)
/-- numbers that may be -/
abbrev okR (need l b : Int32) : Prop := nI 1 ≤ need ∧ need ≤ nI 400 ∧ nI 0 ≤ l ∧ l ≤ nI 23 ∧ nI 0 ≤ b ∧ b ≤ nI 23 ∧ ¬ l = b
abbrev okB (size charge need l b : Int32) : Prop := nI 10 ≤ size ∧ size ≤ nI 400 ∧ nI 0 ≤ charge ∧ charge ≤ size ∧ okR need l b
abbrev okS (w v : Int32) : Prop := nI 0 ≤ w ∧ w ≤ nI 5 ∧ leS w.toNatClampNeg ≤ v ∧ v ≤ moS w.toNatClampNeg
theorem s_isWithin {G : GT} {C : AH} {Q : QT} {X : XT} {v a b : Int32} (hO : GO G) (hq : ∀ r : Int32, r = (if a ≤ v ∧ v ≤ b then 1 else 0) → Q (some (.int r)) C) : Mt G M_X4_isWithin [.int v, .int a, .int b] C Q X := by
  refine Mt_of (by decide) (Nat.le_of_ble_eq_true rfl) ?_
  refine x_iload_n dX4_isWithin_0 rfl ?_
  refine x_iload_n dX4_isWithin_1 rfl ?_
  refine x_icmp_lt (tgt := 14) dX4_isWithin_2 (by decide) (fun c2 => ?_) (fun c2 => ?_)
  · refine x_iconst (v := nI 0) dX4_isWithin_14 (by decide) ?_
    refine x_iret dX4_isWithin_15 rfl (by first | rfl | assumption) ?_
    exact hq _ (by first | exact (if_pos (by grind)).symm | exact (if_neg (by grind)).symm)
  · refine x_iload_n dX4_isWithin_5 rfl ?_
    refine x_iload_n dX4_isWithin_6 rfl ?_
    refine x_icmp_gt (tgt := 14) dX4_isWithin_7 (by decide) (fun c7 => ?_) (fun c7 => ?_)
    · refine x_iconst (v := nI 0) dX4_isWithin_14 (by decide) ?_
      refine x_iret dX4_isWithin_15 rfl (by first | rfl | assumption) ?_
      exact hq _ (by first | exact (if_pos (by grind)).symm | exact (if_neg (by grind)).symm)
    · refine x_iconst (v := nI 1) dX4_isWithin_10 (by decide) ?_
      refine x_goto (tgt := 15) dX4_isWithin_11 (by decide) ?_
      refine x_iret dX4_isWithin_15 rfl (by first | rfl | assumption) ?_
      exact hq _ (by first | exact (if_pos (by grind)).symm | exact (if_neg (by grind)).symm)
theorem ite01 {p : Prop} {hd : Decidable p} {r : Int32} (h : r = (if p then 1 else 0)) : (r = 0 → ¬ p) ∧ (¬ r = 0 → p) := by
  subst h
  split
  · exact ⟨fun h => absurd h (by decide), fun _ => by assumption⟩
  · exact ⟨fun _ => by assumption, fun h => absurd rfl h⟩

theorem s_isRoute {G : GT} {C : AH} {Q : QT} {X : XT} {a l b : Int32} (hO : GO G) (hq : ∀ r : Int32, r = (if okR a l b then 1 else 0) → Q (some (.int r)) C) : Mt G M_X4_isRoute [.int a, .int l, .int b] C Q X := by
  refine Mt_of (by decide) (Nat.le_of_ble_eq_true rfl) ?_
  refine x_iload_n dX4_isRoute_0 rfl ?_
  refine x_iconst (v := nI 1) dX4_isRoute_1 (by decide) ?_
  refine x_sipush (v := nI 400) dX4_isRoute_2 (by decide) ?_
  refine x_callS (As := [_, _, _]) hO dX4_isRoute_5 o_X4_isWithin s_X4_isWithin l_X4_304 ⟨by decide, by decide⟩ ⟨by decide, by decide⟩ rfl rfl (Nat.le_of_ble_eq_true rfl) (s_isWithin hO (fun r5 hr5 => ?_))
  dsimp only [Option.toList, List.cons_append, List.nil_append]
  refine x_if_eq (tgt := 40) dX4_isRoute_8 (by decide) (fun c8 => ?_) (fun c8 => ?_)
  · have p5 := (ite01 hr5).1 c8
    refine x_iconst (v := nI 0) dX4_isRoute_40 (by decide) ?_
    refine x_iret dX4_isRoute_41 rfl (by first | rfl | assumption) ?_
    exact hq _ (by first | exact (if_pos (by grind)).symm | exact (if_neg (by grind)).symm)
  · have p5 := (ite01 hr5).2 c8
    refine x_iload_n dX4_isRoute_11 rfl ?_
    refine x_iconst (v := nI 0) dX4_isRoute_12 (by decide) ?_
    refine x_bipush (v := nI 23) dX4_isRoute_13 (by decide) ?_
    refine x_callS (As := [_, _, _]) hO dX4_isRoute_15 o_X4_isWithin s_X4_isWithin l_X4_304 ⟨by decide, by decide⟩ ⟨by decide, by decide⟩ rfl rfl (Nat.le_of_ble_eq_true rfl) (s_isWithin hO (fun r15 hr15 => ?_))
    dsimp only [Option.toList, List.cons_append, List.nil_append]
    refine x_if_eq (tgt := 40) dX4_isRoute_18 (by decide) (fun c18 => ?_) (fun c18 => ?_)
    · have p15 := (ite01 hr15).1 c18
      refine x_iconst (v := nI 0) dX4_isRoute_40 (by decide) ?_
      refine x_iret dX4_isRoute_41 rfl (by first | rfl | assumption) ?_
      exact hq _ (by first | exact (if_pos (by grind)).symm | exact (if_neg (by grind)).symm)
    · have p15 := (ite01 hr15).2 c18
      refine x_iload_n dX4_isRoute_21 rfl ?_
      refine x_iconst (v := nI 0) dX4_isRoute_22 (by decide) ?_
      refine x_bipush (v := nI 23) dX4_isRoute_23 (by decide) ?_
      refine x_callS (As := [_, _, _]) hO dX4_isRoute_25 o_X4_isWithin s_X4_isWithin l_X4_304 ⟨by decide, by decide⟩ ⟨by decide, by decide⟩ rfl rfl (Nat.le_of_ble_eq_true rfl) (s_isWithin hO (fun r25 hr25 => ?_))
      dsimp only [Option.toList, List.cons_append, List.nil_append]
      refine x_if_eq (tgt := 40) dX4_isRoute_28 (by decide) (fun c28 => ?_) (fun c28 => ?_)
      · have p25 := (ite01 hr25).1 c28
        refine x_iconst (v := nI 0) dX4_isRoute_40 (by decide) ?_
        refine x_iret dX4_isRoute_41 rfl (by first | rfl | assumption) ?_
        exact hq _ (by first | exact (if_pos (by grind)).symm | exact (if_neg (by grind)).symm)
      · have p25 := (ite01 hr25).2 c28
        refine x_iload_n dX4_isRoute_31 rfl ?_
        refine x_iload_n dX4_isRoute_32 rfl ?_
        refine x_icmp_eq (tgt := 40) dX4_isRoute_33 (by decide) (fun c33 => ?_) (fun c33 => ?_)
        · refine x_iconst (v := nI 0) dX4_isRoute_40 (by decide) ?_
          refine x_iret dX4_isRoute_41 rfl (by first | rfl | assumption) ?_
          exact hq _ (by first | exact (if_pos (by grind)).symm | exact (if_neg (by grind)).symm)
        · refine x_iconst (v := nI 1) dX4_isRoute_36 (by decide) ?_
          refine x_goto (tgt := 41) dX4_isRoute_37 (by decide) ?_
          refine x_iret dX4_isRoute_41 rfl (by first | rfl | assumption) ?_
          exact hq _ (by first | exact (if_pos (by grind)).symm | exact (if_neg (by grind)).symm)
theorem s_isBus {G : GT} {C : AH} {Q : QT} {X : XT} {s c a l b : Int32} (hO : GO G) (hq : ∀ r : Int32, r = (if okB s c a l b then 1 else 0) → Q (some (.int r)) C) : Mt G M_X4_isBus [.int s, .int c, .int a, .int l, .int b] C Q X := by
  refine Mt_of (by decide) (Nat.le_of_ble_eq_true rfl) ?_
  refine x_iload_n dX4_isBus_0 rfl ?_
  refine x_bipush (v := nI 10) dX4_isBus_1 (by decide) ?_
  refine x_sipush (v := nI 400) dX4_isBus_3 (by decide) ?_
  refine x_callS (As := [_, _, _]) hO dX4_isBus_6 o_X4_isWithin s_X4_isWithin l_X4_304 ⟨by decide, by decide⟩ ⟨by decide, by decide⟩ rfl rfl (Nat.le_of_ble_eq_true rfl) (s_isWithin hO (fun r6 hr6 => ?_))
  dsimp only [Option.toList, List.cons_append, List.nil_append]
  refine x_if_eq (tgt := 35) dX4_isBus_9 (by decide) (fun c9 => ?_) (fun c9 => ?_)
  · have p6 := (ite01 hr6).1 c9
    refine x_iconst (v := nI 0) dX4_isBus_35 (by decide) ?_
    refine x_iret dX4_isBus_36 rfl (by first | rfl | assumption) ?_
    exact hq _ (by first | exact (if_pos (by grind)).symm | exact (if_neg (by grind)).symm)
  · have p6 := (ite01 hr6).2 c9
    refine x_iload_n dX4_isBus_12 rfl ?_
    refine x_iconst (v := nI 0) dX4_isBus_13 (by decide) ?_
    refine x_iload_n dX4_isBus_14 rfl ?_
    refine x_callS (As := [_, _, _]) hO dX4_isBus_15 o_X4_isWithin s_X4_isWithin l_X4_304 ⟨by decide, by decide⟩ ⟨by decide, by decide⟩ rfl rfl (Nat.le_of_ble_eq_true rfl) (s_isWithin hO (fun r15 hr15 => ?_))
    dsimp only [Option.toList, List.cons_append, List.nil_append]
    refine x_if_eq (tgt := 35) dX4_isBus_18 (by decide) (fun c18 => ?_) (fun c18 => ?_)
    · have p15 := (ite01 hr15).1 c18
      refine x_iconst (v := nI 0) dX4_isBus_35 (by decide) ?_
      refine x_iret dX4_isBus_36 rfl (by first | rfl | assumption) ?_
      exact hq _ (by first | exact (if_pos (by grind)).symm | exact (if_neg (by grind)).symm)
    · have p15 := (ite01 hr15).2 c18
      refine x_iload_n dX4_isBus_21 rfl ?_
      refine x_iload_n dX4_isBus_22 rfl ?_
      refine x_iload dX4_isBus_23 rfl ?_
      refine x_callS (As := [_, _, _]) hO dX4_isBus_25 o_X4_isRoute s_X4_isRoute l_X4_223 ⟨by decide, by decide⟩ ⟨by decide, by decide⟩ rfl rfl (Nat.le_of_ble_eq_true rfl) (s_isRoute hO (fun r25 hr25 => ?_))
      dsimp only [Option.toList, List.cons_append, List.nil_append]
      refine x_if_eq (tgt := 35) dX4_isBus_28 (by decide) (fun c28 => ?_) (fun c28 => ?_)
      · have p25 := (ite01 hr25).1 c28
        refine x_iconst (v := nI 0) dX4_isBus_35 (by decide) ?_
        refine x_iret dX4_isBus_36 rfl (by first | rfl | assumption) ?_
        exact hq _ (by first | exact (if_pos (by grind)).symm | exact (if_neg (by grind)).symm)
      · have p25 := (ite01 hr25).2 c28
        refine x_iconst (v := nI 1) dX4_isBus_31 (by decide) ?_
        refine x_goto (tgt := 36) dX4_isBus_32 (by decide) ?_
        refine x_iret dX4_isBus_36 rfl (by first | rfl | assumption) ?_
        exact hq _ (by first | exact (if_pos (by grind)).symm | exact (if_neg (by grind)).symm)

theorem s_isSetting {G : GT} {C : AH} {Q : QT} {X : XT} {sa va : Nat → Nat} {w v : Int32} (hO : GO G) (hX : GX G sa va) (hq : ∀ r : Int32, r = (if okS w v then 1 else 0) → Q (some (.int r)) C) : Mt G M_X4_isSetting [.int w, .int v] C Q X := by
  refine Mt_of (by decide) (Nat.le_of_ble_eq_true rfl) ?_
  obtain ⟨al, hst10, hL⟩ := hX.2.2.2.1
  obtain ⟨am, hst15, hM⟩ := hX.2.2.2.2.1
  refine x_iload_n dX4_isSetting_0 rfl ?_
  refine x_iconst (v := nI 0) dX4_isSetting_1 (by decide) ?_
  refine x_iconst (v := nI 5) dX4_isSetting_2 (by decide) ?_
  refine x_callS (As := [_, _, _]) hO dX4_isSetting_3 o_X4_isWithin s_X4_isWithin l_X4_304 ⟨by decide, by decide⟩ ⟨by decide, by decide⟩ rfl rfl (Nat.le_of_ble_eq_true rfl) (s_isWithin hO (fun r3 hr3 => ?_))
  dsimp only [Option.toList, List.cons_append, List.nil_append]
  refine x_if_eq (tgt := 30) dX4_isSetting_6 (by decide) (fun c6 => ?_) (fun c6 => ?_)
  · have p3 := (ite01 hr3).1 c6
    refine x_iconst (v := nI 0) dX4_isSetting_30 (by decide) ?_
    refine x_iret dX4_isSetting_31 rfl (by first | rfl | assumption) ?_
    exact hq _ (by first | exact (if_pos (by grind)).symm | exact (if_neg (by grind)).symm)
  · have p3 := (ite01 hr3).2 c6
    obtain ⟨j, hj, rfl⟩ : ∃ j : Nat, j ≤ 5 ∧ w = nI j := nI_of2 (M := nI 5) rfl (Int32.not_lt.mpr (nI_0 ▸ p3.1)) p3.2
    have hcl : (nI j).toNatClampNeg = j := nI_clamp (by omega)
    refine x_iload_n dX4_isSetting_9 rfl ?_
    refine x_getsZ hO hst10 dX4_isSetting_10 f_X4_267 ?_
    refine x_iload_n dX4_isSetting_13 rfl ?_
    refine x_tald j hL dX4_isSetting_14 rfl (by omega) (by decide) ?_
    refine x_getsZ hO hst15 dX4_isSetting_15 f_X4_271 ?_
    refine x_iload_n dX4_isSetting_18 rfl ?_
    refine x_tald j hM dX4_isSetting_19 rfl (by omega) (by decide) ?_
    refine x_callS (As := [_, _, _]) hO dX4_isSetting_20 o_X4_isWithin s_X4_isWithin l_X4_304 ⟨by decide, by decide⟩ ⟨by decide, by decide⟩ rfl rfl (Nat.le_of_ble_eq_true rfl) (s_isWithin hO (fun r20 hr20 => ?_))
    dsimp only [Option.toList, List.cons_append, List.nil_append]
    refine x_if_eq (tgt := 30) dX4_isSetting_23 (by decide) (fun c23 => ?_) (fun c23 => ?_)
    · have p20 := (ite01 hr20).1 c23
      refine x_iconst (v := nI 0) dX4_isSetting_30 (by decide) ?_
      refine x_iret dX4_isSetting_31 rfl (by first | rfl | assumption) ?_
      exact hq _ (by first | exact (if_pos (by grind)).symm | exact (if_neg (by grind)).symm)
    · have p20 := (ite01 hr20).2 c23
      refine x_iconst (v := nI 1) dX4_isSetting_26 (by decide) ?_
      refine x_goto (tgt := 31) dX4_isSetting_27 (by decide) ?_
      refine x_iret dX4_isSetting_31 rfl (by first | rfl | assumption) ?_
      exact hq _ (by first | exact (if_pos (by grind)).symm | exact (if_neg (by grind)).symm)
theorem s_requireWithin {G : GT} {C : AH} {Q : QT} {X : XT} {sa va : Nat → Nat} {v a b : Int32} (hO : GO G) (hX : GX G sa va) (hq : a ≤ v ∧ v ≤ b → Q none C) (hx : ¬ (a ≤ v ∧ v ≤ b) → ∀ z : Nat, gz C ≤ z → X "java/lang/IllegalArgumentException" (wZ C z)) : Mt G M_X4_requireWithin [.int v, .int a, .int b] C Q X := by
  refine Mt_of (by decide) (Nat.le_of_ble_eq_true rfl) ?_
  refine x_iload_n dX4_requireWithin_0 rfl ?_
  refine x_iload_n dX4_requireWithin_1 rfl ?_
  refine x_iload_n dX4_requireWithin_2 rfl ?_
  refine x_callS (As := [_, _, _]) hO dX4_requireWithin_3 o_X4_isWithin s_X4_isWithin l_X4_304 ⟨by decide, by decide⟩ ⟨by decide, by decide⟩ rfl rfl (Nat.le_of_ble_eq_true rfl) (s_isWithin hO (fun r3 hr3 => ?_))
  dsimp only [Option.toList, List.cons_append, List.nil_append]
  refine x_if_ne (tgt := 20) dX4_requireWithin_6 (by decide) (fun c6 => ?_) (fun c6 => ?_)
  · have p3 := (ite01 hr3).2 c6
    refine x_ret dX4_requireWithin_20 rfl ?_
    exact hq p3
  · have p3 := (ite01 hr3).1 c6
    refine x_throwSW (names := nmsX) hO hX.1 dX4_requireWithin_9 dX4_requireWithin_12 dX4_requireWithin_13 dX4_requireWithin_16 dX4_requireWithin_19 fit_181 nms_fit q_X4_177 ini_IllegalArgumentException (hX.2.1 8 _ _ _ rfl) g1_181 dcl g2_181 (dcl_ok hO) (gd_181 _) (Nat.le_of_ble_eq_true rfl) ⟨by decide, by decide⟩ ⟨by decide, by decide⟩ ?_
    exact hx p3
theorem s_requireInDepot {G : GT} {C : AH} {Q : QT} {X : XT} {sa va : Nat → Nat} {h : Nat} (hO : GO G) (hX : GX G sa va) (hK : gK C h = 2) (hq : gI C h 6 = 0 → Q none C) (hx : gI C h 6 = 1 → ∀ z : Nat, gz C ≤ z → X "java/lang/IllegalStateException" (wZ C z)) : Mt G M_X4_requireInDepot [.ref h] C Q X := by
  refine Mt_of (by decide) (Nat.le_of_ble_eq_true rfl) ?_
  refine x_aload_n dX4_requireInDepot_0 rfl ?_
  refine x_getZ 2 hO dX4_requireInDepot_1 f_X4_140 (by first | (simp only [gK_wI]; assumption) | assumption) ⟨by decide, by decide⟩ rfl rfl (fun z1 => ?_)
  refine x_if_eq (tgt := 18) dX4_requireInDepot_4 (by decide) (fun c4 => ?_) (fun c4 => ?_)
  · refine x_ret dX4_requireInDepot_18 rfl ?_
    exact hq (by grind)
  · refine x_throwSW (names := nmsX) hO hX.1 dX4_requireInDepot_7 dX4_requireInDepot_10 dX4_requireInDepot_11 dX4_requireInDepot_14 dX4_requireInDepot_17 fit_56 nms_fit q_X4_52 ini_IllegalStateException (hX.2.1 18 _ _ _ rfl) g1_56 dcl g2_56 (dcl_ok hO) (gd_56 _) (Nat.le_of_ble_eq_true rfl) ⟨by decide, by decide⟩ ⟨by decide, by decide⟩ ?_
    exact hx (by grind)
theorem s_requireSlot {G : GT} {C : AH} {Q : QT} {X : XT} {sa va : Nat → Nat} {v : Int32} (hO : GO G) (hX : GX G sa va) (hq : nI 0 ≤ v ∧ v ≤ nI 1 → Q none C) (hx : ¬ (nI 0 ≤ v ∧ v ≤ nI 1) → ∀ z : Nat, gz C ≤ z → X "java/lang/IndexOutOfBoundsException" (wZ C z)) : Mt G M_X4_requireSlot [.int v] C Q X := by
  refine Mt_of (by decide) (Nat.le_of_ble_eq_true rfl) ?_
  refine x_iload_n dX4_requireSlot_0 rfl ?_
  refine x_iconst (v := nI 0) dX4_requireSlot_1 (by decide) ?_
  refine x_iconst (v := nI 1) dX4_requireSlot_2 (by decide) ?_
  refine x_callS (As := [_, _, _]) hO dX4_requireSlot_3 o_X4_isWithin s_X4_isWithin l_X4_304 ⟨by decide, by decide⟩ ⟨by decide, by decide⟩ rfl rfl (Nat.le_of_ble_eq_true rfl) (s_isWithin hO (fun r3 hr3 => ?_))
  dsimp only [Option.toList, List.cons_append, List.nil_append]
  refine x_if_ne (tgt := 20) dX4_requireSlot_6 (by decide) (fun c6 => ?_) (fun c6 => ?_)
  · have p3 := (ite01 hr3).2 c6
    refine x_ret dX4_requireSlot_20 rfl ?_
    exact hq p3
  · have p3 := (ite01 hr3).1 c6
    refine x_throwSW (names := nmsX) hO hX.1 dX4_requireSlot_9 dX4_requireSlot_12 dX4_requireSlot_13 dX4_requireSlot_16 dX4_requireSlot_19 fit_167 nms_fit q_X4_163 ini_IndexOutOfBoundsException (hX.2.1 22 _ _ _ rfl) g1_167 dcl g2_167 (dcl_ok hO) (gd_167 _) (Nat.le_of_ble_eq_true rfl) ⟨by decide, by decide⟩ ⟨by decide, by decide⟩ ?_
    exact hx p3
