/-! the law: calls that catch *)-/
theorem cl_L_13 : Cond.classLink RL 13 "java/lang/IllegalArgumentException" ∈ TT := tl 362 (by decide +kernel) (by decide +kernel)
theorem ca_IAE : Cond.castable "java/lang/IllegalArgumentException" "java/lang/IllegalArgumentException" ∈ lw_tbl := tm 374 (by decide +kernel)
theorem cl_L_15 : Cond.classLink RL 15 "java/lang/IllegalStateException" ∈ TT := tl 363 (by decide +kernel) (by decide +kernel)
theorem ca_ISE : Cond.castable "java/lang/IllegalStateException" "java/lang/IllegalStateException" ∈ lw_tbl := tm 445 (by decide +kernel)
theorem cl_L_28 : Cond.classLink RL 28 "java/lang/IndexOutOfBoundsException" ∈ TT := tl 645 (by decide +kernel) (by decide +kernel)
theorem ca_IOE : Cond.castable "java/lang/IndexOutOfBoundsException" "java/lang/IndexOutOfBoundsException" ∈ lw_tbl := tm 660 (by decide +kernel)
def GN (G : GT) : Prop := va_Nc "java/lang/IllegalArgumentException" "java/lang/IndexOutOfBoundsException" (gS G) ∧ va_Nc "java/lang/IllegalStateException" "java/lang/IndexOutOfBoundsException" (gS G) ∧ va_Nc "java/lang/IllegalStateException" "java/lang/IllegalArgumentException" (gS G)
/-- cells that lay there, outside x .. x + 255, are the same but for long slots *)-/
def FrL (C C' : AH) (x : Nat) : Prop := gz C ≤ gz C' ∧ ∀ a, a < gz C → (a < x ∨ x + 255 ≤ a) → gK C' a = gK C a ∧ gN C' a = gN C a ∧ (∀ j, gI C' a j = gI C a j) ∧ ∀ j, gR C' a j = gR C a j
theorem FrL_of {C C' : AH} {x : Nat} (h : Fr C C' x 255) : FrL C C' x := ⟨h.1, fun a q1 q2 => ⟨(h.2 a q1 q2).1, (h.2 a q1 q2).2.1, (h.2 a q1 q2).2.2.1, (h.2 a q1 q2).2.2.2.1⟩⟩
theorem FrL_wJ {C C' : AH} {x : Nat} {f : Nat → Nat → Int64} (h : FrL C C' x) : FrL C (wJ C' f) x := h
theorem RX_wJ {T x : Nat} {C : AH} {s : St} {f : Nat → Nat → Int64} (h : RX T C x s) : RX T (wJ C f) x s := h
theorem RX_K {T x : Nat} {C : AH} {s : St} (h : RX T C x s) : gK C x = 6 := h.2.elim fun _ h => h.1.1
abbrev hh_append : List (Nat × Nat × Nat × Nat) := [(0, 9, 12, 13), (0, 9, 15, 15)]
theorem o_L_append : mOkH M_L_append hh_append 3 := ⟨tl 361 (by decide +kernel) (by decide +kernel), tl 56 (by decide +kernel) (by decide +kernel), ⟨by decide +kernel, by decide +kernel⟩, by decide +kernel⟩
theorem s_L_append : Cond.static yL_append ∈ TT := tl 360 (by decide +kernel) (by decide +kernel)
theorem l_append {G : GT} {C : AH} {Q : QT} {X : XT} {out : Nat} {sa va : Nat → Nat} {x T : Nat} {s : St} {c : Int32} (hN : GN G) (hO : GO G) (hX : GX G sa va) (hR : RX T C x s) (ko : gK C out = 24) (no : gN C out = 1) (ho : out < x ∨ x + 255 ≤ out) (hz : out < gz C) (hq : ∀ (r : Int32) (C' : AH), RX (T) C' x (aAppend s c).2.2 → FrL C C' x → r = nI (aAppend s c).1 → ((aAppend s c).1 = 0 → gJ C' out 0 = (aAppend s c).2.1.toInt64) → Q (some (.int r)) C') : MtH G M_L_append hh_append [.ref x, .int c, .ref out] C Q := by
  refine MtH_of (by decide) (Nat.le_of_ble_eq_true rfl) ?_
  intro p9 l9 e9 R9 s9 m9 args9 below9 meth9 c9 Qf9 F S9 E9 ht
  have kx := RX_K hR
  refine f_aload_n F dL_append_0 rfl ?_
  refine f_iconst (v := nI 0) F dL_append_1 (by decide) ?_
  refine f_aload_n F dL_append_2 rfl ?_
  refine f_iload_n F dL_append_3 rfl ?_
  refine f_callX (As := [_]) 6 S9 E9 ht hO dL_append_4 o_X4_append v_X4_append l_L_7 ⟨by decide, by decide⟩ kx ⟨by decide, by decide⟩ rfl ⟨by decide, by decide⟩ rfl rfl (Nat.le_of_ble_eq_true rfl) (t_append hO hX hR (fun h0 C9 hR9 hF => ?_) (fun h1 C9 hR9 hF => ⟨12, ⟨[], _, _, _, rfl, (fun z hz => by cases hz), by decide, by decide, cl_L_13, ca_IAE, rfl⟩, fun q => ?_⟩) (fun h2 C9 hR9 hF => ⟨15, ⟨[_], _, _, _, rfl, (fun z hz => by rw [List.mem_singleton.mp hz]; exact Or.inr ⟨by decide, _, cl_L_13, hN.2.2⟩), by decide, by decide, cl_L_15, ca_ISE, rfl⟩, fun q => ?_⟩))
  · dsimp only [Option.toList, List.cons_append, List.nil_append]
    have ko9 : gK C9 out = 24 := (hF.2 out hz ho).1.trans ko
    have no9 : gN C9 out = 1 := (hF.2 out hz ho).2.1.trans no
    refine x_i2l dL_append_7 ?_
    refine x_last 0 1 hO dL_append_8 ko9 rfl no9 (by decide) (by decide) ?_
    refine x_goto (tgt := 18) dL_append_9 (by decide) ?_
    refine x_iconst (v := nI 0) dL_append_18 (by decide) ?_
    refine x_iret dL_append_19 rfl rfl ?_
    exact hq _ _ (RX_wJ hR9) (FrL_wJ (FrL_of hF)) (congrArg nI h0).symm (fun _ => up2_s)
  · refine x_astore_n dL_append_12 (by decide) ?_
    refine x_iconst (v := nI 1) dL_append_13 (by decide) ?_
    refine x_iret dL_append_14 rfl rfl ?_
    exact hq _ _ (RX_mono hR9 (by omega)) (FrL_of hF) (congrArg nI h1).symm (fun h => absurd (h1.symm.trans h) (by decide))
  · refine x_astore_n dL_append_15 (by decide) ?_
    refine x_iconst (v := nI 2) dL_append_16 (by decide) ?_
    refine x_iret dL_append_17 rfl rfl ?_
    exact hq _ _ (RX_mono hR9 (by omega)) (FrL_of hF) (congrArg nI h2).symm (fun h => absurd (h2.symm.trans h) (by decide))

abbrev hh_load : List (Nat × Nat × Nat × Nat) := [(0, 8, 11, 15)]
theorem o_L_load : mOkH M_L_load hh_load 2 := ⟨tl 466 (by decide +kernel) (by decide +kernel), tl 56 (by decide +kernel) (by decide +kernel), ⟨by decide +kernel, by decide +kernel⟩, by decide +kernel⟩
theorem s_L_load : Cond.static yL_load ∈ TT := tl 465 (by decide +kernel) (by decide +kernel)
theorem l_load {G : GT} {C : AH} {Q : QT} {X : XT} {out : Nat} {sa va : Nat → Nat} {x T n : Nat} {S : Nat → Nat} {ρ : Rw} {L : List Rw} {K : Nat → Option Rw} (hN : GN G) (hO : GO G) (hX : GX G sa va) (hT : T ≤ 40000) (hR : RX T C x (S, n, ρ, L, K)) (h6 : 6000 ≤ T) (ko : gK C out = 24) (no : gN C out = 1) (ho : out < x ∨ x + 255 ≤ out) (hz : out < gz C) (hq : ∀ (r : Int32) (C' : AH), RX (T) C' x (aLoad (S, n, ρ, L, K)).2.2 → FrL C C' x → r = nI (aLoad (S, n, ρ, L, K)).1 → ((aLoad (S, n, ρ, L, K)).1 = 0 → gJ C' out 0 = (aLoad (S, n, ρ, L, K)).2.1.toInt64) → Q (some (.int r)) C') : MtH G M_L_load hh_load [.ref x, .ref out] C Q := by
  refine MtH_of (by decide) (Nat.le_of_ble_eq_true rfl) ?_
  intro p9 l9 e9 R9 s9 m9 args9 below9 meth9 c9 Qf9 F S9 E9 ht
  have kx := RX_K hR
  refine f_aload_n F dL_load_0 rfl ?_
  refine f_iconst (v := nI 0) F dL_load_1 (by decide) ?_
  refine f_aload_n F dL_load_2 rfl ?_
  refine f_callX (As := []) 6 S9 E9 ht hO dL_load_3 o_X4_load v_X4_load l_L_17 ⟨by decide, by decide⟩ kx ⟨by decide, by decide⟩ rfl ⟨by decide, by decide⟩ rfl rfl (Nat.le_of_ble_eq_true rfl) (t_load hO hX hT hR h6 (fun h0 C9 hR9 hF => ?_) (fun h1 C9 hR9 hF => ⟨11, ⟨[], _, _, _, rfl, (fun z hz => by cases hz), by decide, by decide, cl_L_15, ca_ISE, rfl⟩, fun q => ?_⟩))
  · dsimp only [Option.toList, List.cons_append, List.nil_append]
    have ko9 : gK C9 out = 24 := (hF.2 out hz ho).1.trans ko
    have no9 : gN C9 out = 1 := (hF.2 out hz ho).2.1.trans no
    refine x_i2l dL_load_6 ?_
    refine x_last 0 1 hO dL_load_7 ko9 rfl no9 (by decide) (by decide) ?_
    refine x_goto (tgt := 14) dL_load_8 (by decide) ?_
    refine x_iconst (v := nI 0) dL_load_14 (by decide) ?_
    refine x_iret dL_load_15 rfl rfl ?_
    exact hq _ _ (RX_wJ hR9) (FrL_wJ (FrL_of hF)) (congrArg nI h0).symm (fun _ => up2_s)
  · refine x_astore_n dL_load_11 (by decide) ?_
    refine x_iconst (v := nI 1) dL_load_12 (by decide) ?_
    refine x_iret dL_load_13 rfl rfl ?_
    exact hq _ _ (RX_mono hR9 (by omega)) (FrL_of hF) (congrArg nI h1).symm (fun h => absurd (h1.symm.trans h) (by decide))

abbrev hh_about : List (Nat × Nat × Nat × Nat) := [(0, 9, 12, 13)]
theorem o_L_about : mOkH M_L_about hh_about 3 := ⟨tl 624 (by decide +kernel) (by decide +kernel), tl 56 (by decide +kernel) (by decide +kernel), ⟨by decide +kernel, by decide +kernel⟩, by decide +kernel⟩
theorem s_L_about : Cond.static yL_about ∈ TT := tl 623 (by decide +kernel) (by decide +kernel)
theorem l_about {G : GT} {C : AH} {Q : QT} {X : XT} {out : Nat} {sa va : Nat → Nat} {x T n : Nat} {S : Nat → Nat} {ρ : Rw} {L : List Rw} {K : Nat → Option Rw} {w : Int32} (hN : GN G) (hO : GO G) (hX : GX G sa va) (hT : T ≤ 40000) (hR : RX T C x (S, n, ρ, L, K)) (ko : gK C out = 24) (no : gN C out = 1) (ho : out < x ∨ x + 255 ≤ out) (hz : out < gz C) (hq : ∀ (r : Int32) (C' : AH), RX (T) C' x (aAbout (S, n, ρ, L, K) w).2.2 → FrL C C' x → r = nI (aAbout (S, n, ρ, L, K) w).1 → ((aAbout (S, n, ρ, L, K) w).1 = 0 → gJ C' out 0 = (aAbout (S, n, ρ, L, K) w).2.1.toInt64) → Q (some (.int r)) C') : MtH G M_L_about hh_about [.ref x, .int w, .ref out] C Q := by
  refine MtH_of (by decide) (Nat.le_of_ble_eq_true rfl) ?_
  intro p9 l9 e9 R9 s9 m9 args9 below9 meth9 c9 Qf9 F S9 E9 ht
  have kx := RX_K hR
  refine f_aload_n F dL_about_0 rfl ?_
  refine f_iconst (v := nI 0) F dL_about_1 (by decide) ?_
  refine f_aload_n F dL_about_2 rfl ?_
  refine f_iload_n F dL_about_3 rfl ?_
  refine f_callX (As := [_]) 6 S9 E9 ht hO dL_about_4 o_X4_about v_X4_about l_L_21 ⟨by decide, by decide⟩ kx ⟨by decide, by decide⟩ rfl ⟨by decide, by decide⟩ rfl rfl (Nat.le_of_ble_eq_true rfl) (t_about hO hX hT hR (fun h0 C9 hR9 hF => ?_) (fun h1 C9 hR9 hF => ⟨12, ⟨[], _, _, _, rfl, (fun z hz => by cases hz), by decide, by decide, cl_L_13, ca_IAE, rfl⟩, fun q => ?_⟩))
  · dsimp only [Option.toList, List.cons_append, List.nil_append]
    have ko9 : gK C9 out = 24 := (hF.2 out hz ho).1.trans ko
    have no9 : gN C9 out = 1 := (hF.2 out hz ho).2.1.trans no
    refine x_i2l dL_about_7 ?_
    refine x_last 0 1 hO dL_about_8 ko9 rfl no9 (by decide) (by decide) ?_
    refine x_goto (tgt := 15) dL_about_9 (by decide) ?_
    refine x_iconst (v := nI 0) dL_about_15 (by decide) ?_
    refine x_iret dL_about_16 rfl rfl ?_
    exact hq _ _ (RX_wJ hR9) (FrL_wJ (FrL_of hF)) (congrArg nI h0).symm (fun _ => up2_s)
  · refine x_astore_n dL_about_12 (by decide) ?_
    refine x_iconst (v := nI 1) dL_about_13 (by decide) ?_
    refine x_iret dL_about_14 rfl rfl ?_
    exact hq _ _ (RX_mono hR9 (by omega)) (FrL_of hF) (congrArg nI h1).symm (fun h => absurd (h1.symm.trans h) (by decide))

abbrev hh_bus : List (Nat × Nat × Nat × Nat) := [(0, 10, 13, 28), (0, 10, 17, 13)]
theorem o_L_bus : mOkH M_L_bus hh_bus 4 := ⟨tl 644 (by decide +kernel) (by decide +kernel), tl 56 (by decide +kernel) (by decide +kernel), ⟨by decide +kernel, by decide +kernel⟩, by decide +kernel⟩
theorem s_L_bus : Cond.static yL_bus ∈ TT := tl 643 (by decide +kernel) (by decide +kernel)
theorem l_bus {G : GT} {C : AH} {Q : QT} {X : XT} {out : Nat} {sa va : Nat → Nat} {x T n : Nat} {S : Nat → Nat} {ρ : Rw} {L : List Rw} {K : Nat → Option Rw} {b w : Int32} (hN : GN G) (hO : GO G) (hX : GX G sa va) (hT : T ≤ 40000) (hR : RX T C x (S, n, ρ, L, K)) (ko : gK C out = 24) (no : gN C out = 1) (ho : out < x ∨ x + 255 ≤ out) (hz : out < gz C) (hq : ∀ (r : Int32) (C' : AH), RX (T) C' x (aBus (S, n, ρ, L, K) b w).2.2 → FrL C C' x → r = nI (aBus (S, n, ρ, L, K) b w).1 → ((aBus (S, n, ρ, L, K) b w).1 = 0 → gJ C' out 0 = (aBus (S, n, ρ, L, K) b w).2.1.toInt64) → Q (some (.int r)) C') : MtH G M_L_bus hh_bus [.ref x, .int b, .int w, .ref out] C Q := by
  refine MtH_of (by decide) (Nat.le_of_ble_eq_true rfl) ?_
  intro p9 l9 e9 R9 s9 m9 args9 below9 meth9 c9 Qf9 F S9 E9 ht
  have kx := RX_K hR
  refine f_aload_n F dL_bus_0 rfl ?_
  refine f_iconst (v := nI 0) F dL_bus_1 (by decide) ?_
  refine f_aload_n F dL_bus_2 rfl ?_
  refine f_iload_n F dL_bus_3 rfl ?_
  refine f_iload_n F dL_bus_4 rfl ?_
  refine f_callX (As := [_, _]) 6 S9 E9 ht hO dL_bus_5 o_X4_bus v_X4_bus l_L_24 ⟨by decide, by decide⟩ kx ⟨by decide, by decide⟩ rfl ⟨by decide, by decide⟩ rfl rfl (Nat.le_of_ble_eq_true rfl) (t_bus hO hX hT hR (fun h0 C9 hR9 hF => ?_) (fun h1 C9 hR9 hF => ⟨13, ⟨[], _, _, _, rfl, (fun z hz => by cases hz), by decide, by decide, cl_L_28, ca_IOE, rfl⟩, fun q => ?_⟩) (fun h2 C9 hR9 hF => ⟨17, ⟨[_], _, _, _, rfl, (fun z hz => by rw [List.mem_singleton.mp hz]; exact Or.inr ⟨by decide, _, cl_L_28, hN.1⟩), by decide, by decide, cl_L_13, ca_IAE, rfl⟩, fun q => ?_⟩))
  · dsimp only [Option.toList, List.cons_append, List.nil_append]
    have ko9 : gK C9 out = 24 := (hF.2 out hz ho).1.trans ko
    have no9 : gN C9 out = 1 := (hF.2 out hz ho).2.1.trans no
    refine x_i2l dL_bus_8 ?_
    refine x_last 0 1 hO dL_bus_9 ko9 rfl no9 (by decide) (by decide) ?_
    refine x_goto (tgt := 21) dL_bus_10 (by decide) ?_
    refine x_iconst (v := nI 0) dL_bus_21 (by decide) ?_
    refine x_iret dL_bus_22 rfl rfl ?_
    exact hq _ _ (RX_wJ hR9) (FrL_wJ (FrL_of hF)) (congrArg nI h0).symm (fun _ => up2_s)
  · refine x_astore dL_bus_13 (by decide) ?_
    refine x_iconst (v := nI 1) dL_bus_15 (by decide) ?_
    refine x_iret dL_bus_16 rfl rfl ?_
    exact hq _ _ (RX_mono hR9 (by omega)) (FrL_of hF) (congrArg nI h1).symm (fun h => absurd (h1.symm.trans h) (by decide))
  · refine x_astore dL_bus_17 (by decide) ?_
    refine x_iconst (v := nI 2) dL_bus_19 (by decide) ?_
    refine x_iret dL_bus_20 rfl rfl ?_
    exact hq _ _ (RX_mono hR9 (by omega)) (FrL_of hF) (congrArg nI h2).symm (fun h => absurd (h2.symm.trans h) (by decide))

abbrev hh_charger : List (Nat × Nat × Nat × Nat) := [(0, 10, 13, 28), (0, 10, 17, 13)]
theorem o_L_charger : mOkH M_L_charger hh_charger 4 := ⟨tl 701 (by decide +kernel) (by decide +kernel), tl 56 (by decide +kernel) (by decide +kernel), ⟨by decide +kernel, by decide +kernel⟩, by decide +kernel⟩
theorem s_L_charger : Cond.static yL_charger ∈ TT := tl 700 (by decide +kernel) (by decide +kernel)
theorem l_charger {G : GT} {C : AH} {Q : QT} {X : XT} {out : Nat} {sa va : Nat → Nat} {x T n : Nat} {S : Nat → Nat} {ρ : Rw} {L : List Rw} {K : Nat → Option Rw} {c w : Int32} (hN : GN G) (hO : GO G) (hX : GX G sa va) (hT : T ≤ 40000) (hR : RX T C x (S, n, ρ, L, K)) (ko : gK C out = 24) (no : gN C out = 1) (ho : out < x ∨ x + 255 ≤ out) (hz : out < gz C) (hq : ∀ (r : Int32) (C' : AH), RX (T) C' x (aCharger (S, n, ρ, L, K) c w).2.2 → FrL C C' x → r = nI (aCharger (S, n, ρ, L, K) c w).1 → ((aCharger (S, n, ρ, L, K) c w).1 = 0 → gJ C' out 0 = (aCharger (S, n, ρ, L, K) c w).2.1.toInt64) → Q (some (.int r)) C') : MtH G M_L_charger hh_charger [.ref x, .int c, .int w, .ref out] C Q := by
  refine MtH_of (by decide) (Nat.le_of_ble_eq_true rfl) ?_
  intro p9 l9 e9 R9 s9 m9 args9 below9 meth9 c9 Qf9 F S9 E9 ht
  have kx := RX_K hR
  refine f_aload_n F dL_charger_0 rfl ?_
  refine f_iconst (v := nI 0) F dL_charger_1 (by decide) ?_
  refine f_aload_n F dL_charger_2 rfl ?_
  refine f_iload_n F dL_charger_3 rfl ?_
  refine f_iload_n F dL_charger_4 rfl ?_
  refine f_callX (As := [_, _]) 6 S9 E9 ht hO dL_charger_5 o_X4_charger v_X4_charger l_L_30 ⟨by decide, by decide⟩ kx ⟨by decide, by decide⟩ rfl ⟨by decide, by decide⟩ rfl rfl (Nat.le_of_ble_eq_true rfl) (t_charger hO hX hT hR (fun h0 C9 hR9 hF => ?_) (fun h1 C9 hR9 hF => ⟨13, ⟨[], _, _, _, rfl, (fun z hz => by cases hz), by decide, by decide, cl_L_28, ca_IOE, rfl⟩, fun q => ?_⟩) (fun h2 C9 hR9 hF => ⟨17, ⟨[_], _, _, _, rfl, (fun z hz => by rw [List.mem_singleton.mp hz]; exact Or.inr ⟨by decide, _, cl_L_28, hN.1⟩), by decide, by decide, cl_L_13, ca_IAE, rfl⟩, fun q => ?_⟩))
  · dsimp only [Option.toList, List.cons_append, List.nil_append]
    have ko9 : gK C9 out = 24 := (hF.2 out hz ho).1.trans ko
    have no9 : gN C9 out = 1 := (hF.2 out hz ho).2.1.trans no
    refine x_i2l dL_charger_8 ?_
    refine x_last 0 1 hO dL_charger_9 ko9 rfl no9 (by decide) (by decide) ?_
    refine x_goto (tgt := 21) dL_charger_10 (by decide) ?_
    refine x_iconst (v := nI 0) dL_charger_21 (by decide) ?_
    refine x_iret dL_charger_22 rfl rfl ?_
    exact hq _ _ (RX_wJ hR9) (FrL_wJ (FrL_of hF)) (congrArg nI h0).symm (fun _ => up2_s)
  · refine x_astore dL_charger_13 (by decide) ?_
    refine x_iconst (v := nI 1) dL_charger_15 (by decide) ?_
    refine x_iret dL_charger_16 rfl rfl ?_
    exact hq _ _ (RX_mono hR9 (by omega)) (FrL_of hF) (congrArg nI h1).symm (fun h => absurd (h1.symm.trans h) (by decide))
  · refine x_astore dL_charger_17 (by decide) ?_
    refine x_iconst (v := nI 2) dL_charger_19 (by decide) ?_
    refine x_iret dL_charger_20 rfl rfl ?_
    exact hq _ _ (RX_mono hR9 (by omega)) (FrL_of hF) (congrArg nI h2).symm (fun h => absurd (h2.symm.trans h) (by decide))

abbrev hh_sign : List (Nat × Nat × Nat × Nat) := [(0, 10, 13, 28), (0, 10, 17, 13)]
theorem o_L_sign : mOkH M_L_sign hh_sign 4 := ⟨tl 719 (by decide +kernel) (by decide +kernel), tl 56 (by decide +kernel) (by decide +kernel), ⟨by decide +kernel, by decide +kernel⟩, by decide +kernel⟩
theorem s_L_sign : Cond.static yL_sign ∈ TT := tl 718 (by decide +kernel) (by decide +kernel)
theorem l_sign {G : GT} {C : AH} {Q : QT} {X : XT} {out : Nat} {sa va : Nat → Nat} {x T n : Nat} {S : Nat → Nat} {ρ : Rw} {L : List Rw} {K : Nat → Option Rw} {b w : Int32} (hN : GN G) (hO : GO G) (hX : GX G sa va) (hT : T ≤ 40000) (hR : RX T C x (S, n, ρ, L, K)) (ko : gK C out = 24) (no : gN C out = 1) (ho : out < x ∨ x + 255 ≤ out) (hz : out < gz C) (hq : ∀ (r : Int32) (C' : AH), RX (T) C' x (aSign (S, n, ρ, L, K) b w).2.2 → FrL C C' x → r = nI (aSign (S, n, ρ, L, K) b w).1 → ((aSign (S, n, ρ, L, K) b w).1 = 0 → gJ C' out 0 = (aSign (S, n, ρ, L, K) b w).2.1.toInt64) → Q (some (.int r)) C') : MtH G M_L_sign hh_sign [.ref x, .int b, .int w, .ref out] C Q := by
  refine MtH_of (by decide) (Nat.le_of_ble_eq_true rfl) ?_
  intro p9 l9 e9 R9 s9 m9 args9 below9 meth9 c9 Qf9 F S9 E9 ht
  have kx := RX_K hR
  refine f_aload_n F dL_sign_0 rfl ?_
  refine f_iconst (v := nI 0) F dL_sign_1 (by decide) ?_
  refine f_aload_n F dL_sign_2 rfl ?_
  refine f_iload_n F dL_sign_3 rfl ?_
  refine f_iload_n F dL_sign_4 rfl ?_
  refine f_callX (As := [_, _]) 6 S9 E9 ht hO dL_sign_5 o_X4_sign v_X4_sign l_L_33 ⟨by decide, by decide⟩ kx ⟨by decide, by decide⟩ rfl ⟨by decide, by decide⟩ rfl rfl (Nat.le_of_ble_eq_true rfl) (t_sign hO hX hT hR (fun h0 C9 hR9 hF => ?_) (fun h1 C9 hR9 hF => ⟨13, ⟨[], _, _, _, rfl, (fun z hz => by cases hz), by decide, by decide, cl_L_28, ca_IOE, rfl⟩, fun q => ?_⟩) (fun h2 C9 hR9 hF => ⟨17, ⟨[_], _, _, _, rfl, (fun z hz => by rw [List.mem_singleton.mp hz]; exact Or.inr ⟨by decide, _, cl_L_28, hN.1⟩), by decide, by decide, cl_L_13, ca_IAE, rfl⟩, fun q => ?_⟩))
  · dsimp only [Option.toList, List.cons_append, List.nil_append]
    have ko9 : gK C9 out = 24 := (hF.2 out hz ho).1.trans ko
    have no9 : gN C9 out = 1 := (hF.2 out hz ho).2.1.trans no
    refine x_i2l dL_sign_8 ?_
    refine x_last 0 1 hO dL_sign_9 ko9 rfl no9 (by decide) (by decide) ?_
    refine x_goto (tgt := 21) dL_sign_10 (by decide) ?_
    refine x_iconst (v := nI 0) dL_sign_21 (by decide) ?_
    refine x_iret dL_sign_22 rfl rfl ?_
    exact hq _ _ (RX_wJ hR9) (FrL_wJ (FrL_of hF)) (congrArg nI h0).symm (fun _ => up2_s)
  · refine x_astore dL_sign_13 (by decide) ?_
    refine x_iconst (v := nI 1) dL_sign_15 (by decide) ?_
    refine x_iret dL_sign_16 rfl rfl ?_
    exact hq _ _ (RX_mono hR9 (by omega)) (FrL_of hF) (congrArg nI h1).symm (fun h => absurd (h1.symm.trans h) (by decide))
  · refine x_astore dL_sign_17 (by decide) ?_
    refine x_iconst (v := nI 2) dL_sign_19 (by decide) ?_
    refine x_iret dL_sign_20 rfl rfl ?_
    exact hq _ _ (RX_mono hR9 (by omega)) (FrL_of hF) (congrArg nI h2).symm (fun h => absurd (h2.symm.trans h) (by decide))

abbrev hh_setting : List (Nat × Nat × Nat × Nat) := [(0, 9, 12, 13)]
theorem o_L_setting : mOkH M_L_setting hh_setting 3 := ⟨tl 918 (by decide +kernel) (by decide +kernel), tl 56 (by decide +kernel) (by decide +kernel), ⟨by decide +kernel, by decide +kernel⟩, by decide +kernel⟩
theorem s_L_setting : Cond.static yL_setting ∈ TT := tl 917 (by decide +kernel) (by decide +kernel)
theorem l_setting {G : GT} {C : AH} {Q : QT} {X : XT} {out : Nat} {sa va : Nat → Nat} {x T n : Nat} {S : Nat → Nat} {ρ : Rw} {L : List Rw} {K : Nat → Option Rw} {w : Int32} (hN : GN G) (hO : GO G) (hX : GX G sa va) (hT : T ≤ 40000) (hR : RX T C x (S, n, ρ, L, K)) (ko : gK C out = 24) (no : gN C out = 1) (ho : out < x ∨ x + 255 ≤ out) (hz : out < gz C) (hq : ∀ (r : Int32) (C' : AH), RX (T) C' x (aSetting (S, n, ρ, L, K) w).2.2 → FrL C C' x → r = nI (aSetting (S, n, ρ, L, K) w).1 → ((aSetting (S, n, ρ, L, K) w).1 = 0 → gJ C' out 0 = (aSetting (S, n, ρ, L, K) w).2.1.toInt64) → Q (some (.int r)) C') : MtH G M_L_setting hh_setting [.ref x, .int w, .ref out] C Q := by
  refine MtH_of (by decide) (Nat.le_of_ble_eq_true rfl) ?_
  intro p9 l9 e9 R9 s9 m9 args9 below9 meth9 c9 Qf9 F S9 E9 ht
  have kx := RX_K hR
  refine f_aload_n F dL_setting_0 rfl ?_
  refine f_iconst (v := nI 0) F dL_setting_1 (by decide) ?_
  refine f_aload_n F dL_setting_2 rfl ?_
  refine f_iload_n F dL_setting_3 rfl ?_
  refine f_callX (As := [_]) 6 S9 E9 ht hO dL_setting_4 o_X4_setting v_X4_setting l_L_36 ⟨by decide, by decide⟩ kx ⟨by decide, by decide⟩ rfl ⟨by decide, by decide⟩ rfl rfl (Nat.le_of_ble_eq_true rfl) (t_setting hO hX hT hR (fun h0 C9 hR9 hF => ?_) (fun h1 C9 hR9 hF => ⟨12, ⟨[], _, _, _, rfl, (fun z hz => by cases hz), by decide, by decide, cl_L_13, ca_IAE, rfl⟩, fun q => ?_⟩))
  · dsimp only [Option.toList, List.cons_append, List.nil_append]
    have ko9 : gK C9 out = 24 := (hF.2 out hz ho).1.trans ko
    have no9 : gN C9 out = 1 := (hF.2 out hz ho).2.1.trans no
    refine x_i2l dL_setting_7 ?_
    refine x_last 0 1 hO dL_setting_8 ko9 rfl no9 (by decide) (by decide) ?_
    refine x_goto (tgt := 15) dL_setting_9 (by decide) ?_
    refine x_iconst (v := nI 0) dL_setting_15 (by decide) ?_
    refine x_iret dL_setting_16 rfl rfl ?_
    exact hq _ _ (RX_wJ hR9) (FrL_wJ (FrL_of hF)) (congrArg nI h0).symm (fun _ => up2_s)
  · refine x_astore_n dL_setting_12 (by decide) ?_
    refine x_iconst (v := nI 1) dL_setting_13 (by decide) ?_
    refine x_iret dL_setting_14 rfl rfl ?_
    exact hq _ _ (RX_mono hR9 (by omega)) (FrL_of hF) (congrArg nI h1).symm (fun h => absurd (h1.symm.trans h) (by decide))

abbrev hh_addBus : List (Nat × Nat × Nat × Nat) := [(0, 16, 19, 13), (0, 16, 23, 15)]
theorem o_L_addBus : mOkH M_L_addBus hh_addBus 7 := ⟨tl 929 (by decide +kernel) (by decide +kernel), tl 56 (by decide +kernel) (by decide +kernel), ⟨by decide +kernel, by decide +kernel⟩, by decide +kernel⟩
theorem s_L_addBus : Cond.static yL_addBus ∈ TT := tl 928 (by decide +kernel) (by decide +kernel)
theorem l_addBus {G : GT} {C : AH} {Q : QT} {X : XT} {out : Nat} {sa va : Nat → Nat} {x T n : Nat} {S : Nat → Nat} {ρ : Rw} {L : List Rw} {K : Nat → Option Rw} {a b c d e : Int32} (hN : GN G) (hO : GO G) (hX : GX G sa va) (hT : T ≤ 40000) (hR : RX T C x (S, n, ρ, L, K)) (ko : gK C out = 24) (no : gN C out = 1) (ho : out < x ∨ x + 255 ≤ out) (hz : out < gz C) (hq : ∀ (r : Int32) (C' : AH), RX (T) C' x (aAddBus (S, n, ρ, L, K) a b c d e).2.2 → FrL C C' x → r = nI (aAddBus (S, n, ρ, L, K) a b c d e).1 → ((aAddBus (S, n, ρ, L, K) a b c d e).1 = 0 → gJ C' out 0 = (aAddBus (S, n, ρ, L, K) a b c d e).2.1.toInt64) → Q (some (.int r)) C') : MtH G M_L_addBus hh_addBus [.ref x, .int a, .int b, .int c, .int d, .int e, .ref out] C Q := by
  refine MtH_of (by decide) (Nat.le_of_ble_eq_true rfl) ?_
  intro p9 l9 e9 R9 s9 m9 args9 below9 meth9 c9 Qf9 F S9 E9 ht
  have kx := RX_K hR
  refine f_aload F dL_addBus_0 rfl ?_
  refine f_iconst (v := nI 0) F dL_addBus_2 (by decide) ?_
  refine f_aload_n F dL_addBus_3 rfl ?_
  refine f_iload_n F dL_addBus_4 rfl ?_
  refine f_iload_n F dL_addBus_5 rfl ?_
  refine f_iload_n F dL_addBus_6 rfl ?_
  refine f_iload F dL_addBus_7 rfl ?_
  refine f_iload F dL_addBus_9 rfl ?_
  refine f_callX (As := [_, _, _, _, _]) 6 S9 E9 ht hO dL_addBus_11 o_X4_addBus v_X4_addBus l_L_39 ⟨by decide, by decide⟩ kx ⟨by decide, by decide⟩ rfl ⟨by decide, by decide⟩ rfl rfl (Nat.le_of_ble_eq_true rfl) (t_addBus hO hX hT hR (fun h0 C9 hR9 hF => ?_) (fun h1 C9 hR9 hF => ⟨19, ⟨[], _, _, _, rfl, (fun z hz => by cases hz), by decide, by decide, cl_L_13, ca_IAE, rfl⟩, fun q => ?_⟩) (fun h2 C9 hR9 hF => ⟨23, ⟨[_], _, _, _, rfl, (fun z hz => by rw [List.mem_singleton.mp hz]; exact Or.inr ⟨by decide, _, cl_L_13, hN.2.2⟩), by decide, by decide, cl_L_15, ca_ISE, rfl⟩, fun q => ?_⟩))
  · dsimp only [Option.toList, List.cons_append, List.nil_append]
    have ko9 : gK C9 out = 24 := (hF.2 out hz ho).1.trans ko
    have no9 : gN C9 out = 1 := (hF.2 out hz ho).2.1.trans no
    refine x_i2l dL_addBus_14 ?_
    refine x_last 0 1 hO dL_addBus_15 ko9 rfl no9 (by decide) (by decide) ?_
    refine x_goto (tgt := 27) dL_addBus_16 (by decide) ?_
    refine x_iconst (v := nI 0) dL_addBus_27 (by decide) ?_
    refine x_iret dL_addBus_28 rfl rfl ?_
    exact hq _ _ (RX_wJ hR9) (FrL_wJ (FrL_of hF)) (congrArg nI h0).symm (fun _ => up2_s)
  · refine x_astore dL_addBus_19 (by decide) ?_
    refine x_iconst (v := nI 1) dL_addBus_21 (by decide) ?_
    refine x_iret dL_addBus_22 rfl rfl ?_
    exact hq _ _ (RX_mono hR9 (by omega)) (FrL_of hF) (congrArg nI h1).symm (fun h => absurd (h1.symm.trans h) (by decide))
  · refine x_astore dL_addBus_23 (by decide) ?_
    refine x_iconst (v := nI 2) dL_addBus_25 (by decide) ?_
    refine x_iret dL_addBus_26 rfl rfl ?_
    exact hq _ _ (RX_mono hR9 (by omega)) (FrL_of hF) (congrArg nI h2).symm (fun h => absurd (h2.symm.trans h) (by decide))

abbrev hh_addCharger : List (Nat × Nat × Nat × Nat) := [(0, 9, 12, 13), (0, 9, 15, 15)]
theorem o_L_addCharger : mOkH M_L_addCharger hh_addCharger 3 := ⟨tl 950 (by decide +kernel) (by decide +kernel), tl 56 (by decide +kernel) (by decide +kernel), ⟨by decide +kernel, by decide +kernel⟩, by decide +kernel⟩
theorem s_L_addCharger : Cond.static yL_addCharger ∈ TT := tl 949 (by decide +kernel) (by decide +kernel)
theorem l_addCharger {G : GT} {C : AH} {Q : QT} {X : XT} {out : Nat} {sa va : Nat → Nat} {x T n : Nat} {S : Nat → Nat} {ρ : Rw} {L : List Rw} {K : Nat → Option Rw} {w : Int32} (hN : GN G) (hO : GO G) (hX : GX G sa va) (hT : T ≤ 40000) (hR : RX T C x (S, n, ρ, L, K)) (ko : gK C out = 24) (no : gN C out = 1) (ho : out < x ∨ x + 255 ≤ out) (hz : out < gz C) (hq : ∀ (r : Int32) (C' : AH), RX (T) C' x (aAddC (S, n, ρ, L, K) w).2.2 → FrL C C' x → r = nI (aAddC (S, n, ρ, L, K) w).1 → ((aAddC (S, n, ρ, L, K) w).1 = 0 → gJ C' out 0 = (aAddC (S, n, ρ, L, K) w).2.1.toInt64) → Q (some (.int r)) C') : MtH G M_L_addCharger hh_addCharger [.ref x, .int w, .ref out] C Q := by
  refine MtH_of (by decide) (Nat.le_of_ble_eq_true rfl) ?_
  intro p9 l9 e9 R9 s9 m9 args9 below9 meth9 c9 Qf9 F S9 E9 ht
  have kx := RX_K hR
  refine f_aload_n F dL_addCharger_0 rfl ?_
  refine f_iconst (v := nI 0) F dL_addCharger_1 (by decide) ?_
  refine f_aload_n F dL_addCharger_2 rfl ?_
  refine f_iload_n F dL_addCharger_3 rfl ?_
  refine f_callX (As := [_]) 6 S9 E9 ht hO dL_addCharger_4 o_X4_addCharger v_X4_addCharger l_L_43 ⟨by decide, by decide⟩ kx ⟨by decide, by decide⟩ rfl ⟨by decide, by decide⟩ rfl rfl (Nat.le_of_ble_eq_true rfl) (t_addCharger hO hX hT hR (fun h0 C9 hR9 hF => ?_) (fun h1 C9 hR9 hF => ⟨12, ⟨[], _, _, _, rfl, (fun z hz => by cases hz), by decide, by decide, cl_L_13, ca_IAE, rfl⟩, fun q => ?_⟩) (fun h2 C9 hR9 hF => ⟨15, ⟨[_], _, _, _, rfl, (fun z hz => by rw [List.mem_singleton.mp hz]; exact Or.inr ⟨by decide, _, cl_L_13, hN.2.2⟩), by decide, by decide, cl_L_15, ca_ISE, rfl⟩, fun q => ?_⟩))
  · dsimp only [Option.toList, List.cons_append, List.nil_append]
    have ko9 : gK C9 out = 24 := (hF.2 out hz ho).1.trans ko
    have no9 : gN C9 out = 1 := (hF.2 out hz ho).2.1.trans no
    refine x_i2l dL_addCharger_7 ?_
    refine x_last 0 1 hO dL_addCharger_8 ko9 rfl no9 (by decide) (by decide) ?_
    refine x_goto (tgt := 18) dL_addCharger_9 (by decide) ?_
    refine x_iconst (v := nI 0) dL_addCharger_18 (by decide) ?_
    refine x_iret dL_addCharger_19 rfl rfl ?_
    exact hq _ _ (RX_wJ hR9) (FrL_wJ (FrL_of hF)) (congrArg nI h0).symm (fun _ => up2_s)
  · refine x_astore_n dL_addCharger_12 (by decide) ?_
    refine x_iconst (v := nI 1) dL_addCharger_13 (by decide) ?_
    refine x_iret dL_addCharger_14 rfl rfl ?_
    exact hq _ _ (RX_mono hR9 (by omega)) (FrL_of hF) (congrArg nI h1).symm (fun h => absurd (h1.symm.trans h) (by decide))
  · refine x_astore_n dL_addCharger_15 (by decide) ?_
    refine x_iconst (v := nI 2) dL_addCharger_16 (by decide) ?_
    refine x_iret dL_addCharger_17 rfl rfl ?_
    exact hq _ _ (RX_mono hR9 (by omega)) (FrL_of hF) (congrArg nI h2).symm (fun h => absurd (h2.symm.trans h) (by decide))

abbrev hh_route : List (Nat × Nat × Nat × Nat) := [(0, 14, 17, 28), (0, 14, 21, 13), (0, 14, 25, 15)]
theorem o_L_route : mOkH M_L_route hh_route 6 := ⟨tl 964 (by decide +kernel) (by decide +kernel), tl 56 (by decide +kernel) (by decide +kernel), ⟨by decide +kernel, by decide +kernel⟩, by decide +kernel⟩
theorem s_L_route : Cond.static yL_route ∈ TT := tl 963 (by decide +kernel) (by decide +kernel)
theorem l_route {G : GT} {C : AH} {Q : QT} {X : XT} {out : Nat} {sa va : Nat → Nat} {x T n : Nat} {S : Nat → Nat} {ρ : Rw} {L : List Rw} {K : Nat → Option Rw} {b a l k : Int32} (hN : GN G) (hO : GO G) (hX : GX G sa va) (hT : T ≤ 40000) (hR : RX T C x (S, n, ρ, L, K)) (ko : gK C out = 24) (no : gN C out = 1) (ho : out < x ∨ x + 255 ≤ out) (hz : out < gz C) (hq : ∀ (r : Int32) (C' : AH), RX (T) C' x (aRoute (S, n, ρ, L, K) b a l k).2.2 → FrL C C' x → r = nI (aRoute (S, n, ρ, L, K) b a l k).1 → ((aRoute (S, n, ρ, L, K) b a l k).1 = 0 → gJ C' out 0 = (aRoute (S, n, ρ, L, K) b a l k).2.1.toInt64) → Q (some (.int r)) C') : MtH G M_L_route hh_route [.ref x, .int b, .int a, .int l, .int k, .ref out] C Q := by
  refine MtH_of (by decide) (Nat.le_of_ble_eq_true rfl) ?_
  intro p9 l9 e9 R9 s9 m9 args9 below9 meth9 c9 Qf9 F S9 E9 ht
  have kx := RX_K hR
  refine f_aload F dL_route_0 rfl ?_
  refine f_iconst (v := nI 0) F dL_route_2 (by decide) ?_
  refine f_aload_n F dL_route_3 rfl ?_
  refine f_iload_n F dL_route_4 rfl ?_
  refine f_iload_n F dL_route_5 rfl ?_
  refine f_iload_n F dL_route_6 rfl ?_
  refine f_iload F dL_route_7 rfl ?_
  refine f_callX (As := [_, _, _, _]) 6 S9 E9 ht hO dL_route_9 o_X4_route v_X4_route l_L_46 ⟨by decide, by decide⟩ kx ⟨by decide, by decide⟩ rfl ⟨by decide, by decide⟩ rfl rfl (Nat.le_of_ble_eq_true rfl) (t_route hO hX hT hR (fun h0 C9 hR9 hF => ?_) (fun h1 C9 hR9 hF => ⟨17, ⟨[], _, _, _, rfl, (fun z hz => by cases hz), by decide, by decide, cl_L_28, ca_IOE, rfl⟩, fun q => ?_⟩) (fun h2 C9 hR9 hF => ⟨21, ⟨[_], _, _, _, rfl, (fun z hz => by rw [List.mem_singleton.mp hz]; exact Or.inr ⟨by decide, _, cl_L_28, hN.1⟩), by decide, by decide, cl_L_13, ca_IAE, rfl⟩, fun q => ?_⟩) (fun h3 C9 hR9 hF => ⟨25, ⟨[_, _], _, _, _, rfl, (fun z hz => (List.mem_cons.mp hz).elim (fun e => by rw [e]; exact Or.inr ⟨by decide, _, cl_L_28, hN.2.1⟩) (fun hz => by rw [List.mem_singleton.mp hz]; exact Or.inr ⟨by decide, _, cl_L_13, hN.2.2⟩)), by decide, by decide, cl_L_15, ca_ISE, rfl⟩, fun q => ?_⟩))
  · dsimp only [Option.toList, List.cons_append, List.nil_append]
    have ko9 : gK C9 out = 24 := (hF.2 out hz ho).1.trans ko
    have no9 : gN C9 out = 1 := (hF.2 out hz ho).2.1.trans no
    refine x_i2l dL_route_12 ?_
    refine x_last 0 1 hO dL_route_13 ko9 rfl no9 (by decide) (by decide) ?_
    refine x_goto (tgt := 29) dL_route_14 (by decide) ?_
    refine x_iconst (v := nI 0) dL_route_29 (by decide) ?_
    refine x_iret dL_route_30 rfl rfl ?_
    exact hq _ _ (RX_wJ hR9) (FrL_wJ (FrL_of hF)) (congrArg nI h0).symm (fun _ => up2_s)
  · refine x_astore dL_route_17 (by decide) ?_
    refine x_iconst (v := nI 1) dL_route_19 (by decide) ?_
    refine x_iret dL_route_20 rfl rfl ?_
    exact hq _ _ (RX_mono hR9 (by omega)) (FrL_of hF) (congrArg nI h1).symm (fun h => absurd (h1.symm.trans h) (by decide))
  · refine x_astore dL_route_21 (by decide) ?_
    refine x_iconst (v := nI 2) dL_route_23 (by decide) ?_
    refine x_iret dL_route_24 rfl rfl ?_
    exact hq _ _ (RX_mono hR9 (by omega)) (FrL_of hF) (congrArg nI h2).symm (fun h => absurd (h2.symm.trans h) (by decide))
  · refine x_astore dL_route_25 (by decide) ?_
    refine x_iconst (v := nI 3) dL_route_27 (by decide) ?_
    refine x_iret dL_route_28 rfl rfl ?_
    exact hq _ _ (RX_mono hR9 (by omega)) (FrL_of hF) (congrArg nI h3).symm (fun h => absurd (h3.symm.trans h) (by decide))

abbrev hh_battery : List (Nat × Nat × Nat × Nat) := [(0, 10, 13, 28), (0, 10, 17, 13), (0, 10, 21, 15)]
theorem o_L_battery : mOkH M_L_battery hh_battery 4 := ⟨tl 977 (by decide +kernel) (by decide +kernel), tl 56 (by decide +kernel) (by decide +kernel), ⟨by decide +kernel, by decide +kernel⟩, by decide +kernel⟩
theorem s_L_battery : Cond.static yL_battery ∈ TT := tl 976 (by decide +kernel) (by decide +kernel)
theorem l_battery {G : GT} {C : AH} {Q : QT} {X : XT} {out : Nat} {sa va : Nat → Nat} {x T n : Nat} {S : Nat → Nat} {ρ : Rw} {L : List Rw} {K : Nat → Option Rw} {b a : Int32} (hN : GN G) (hO : GO G) (hX : GX G sa va) (hT : T ≤ 40000) (hR : RX T C x (S, n, ρ, L, K)) (ko : gK C out = 24) (no : gN C out = 1) (ho : out < x ∨ x + 255 ≤ out) (hz : out < gz C) (hq : ∀ (r : Int32) (C' : AH), RX (T) C' x (aBattery (S, n, ρ, L, K) b a).2.2 → FrL C C' x → r = nI (aBattery (S, n, ρ, L, K) b a).1 → ((aBattery (S, n, ρ, L, K) b a).1 = 0 → gJ C' out 0 = (aBattery (S, n, ρ, L, K) b a).2.1.toInt64) → Q (some (.int r)) C') : MtH G M_L_battery hh_battery [.ref x, .int b, .int a, .ref out] C Q := by
  refine MtH_of (by decide) (Nat.le_of_ble_eq_true rfl) ?_
  intro p9 l9 e9 R9 s9 m9 args9 below9 meth9 c9 Qf9 F S9 E9 ht
  have kx := RX_K hR
  refine f_aload_n F dL_battery_0 rfl ?_
  refine f_iconst (v := nI 0) F dL_battery_1 (by decide) ?_
  refine f_aload_n F dL_battery_2 rfl ?_
  refine f_iload_n F dL_battery_3 rfl ?_
  refine f_iload_n F dL_battery_4 rfl ?_
  refine f_callX (As := [_, _]) 6 S9 E9 ht hO dL_battery_5 o_X4_battery v_X4_battery l_L_50 ⟨by decide, by decide⟩ kx ⟨by decide, by decide⟩ rfl ⟨by decide, by decide⟩ rfl rfl (Nat.le_of_ble_eq_true rfl) (t_battery hO hX hT hR (fun h0 C9 hR9 hF => ?_) (fun h1 C9 hR9 hF => ⟨13, ⟨[], _, _, _, rfl, (fun z hz => by cases hz), by decide, by decide, cl_L_28, ca_IOE, rfl⟩, fun q => ?_⟩) (fun h2 C9 hR9 hF => ⟨17, ⟨[_], _, _, _, rfl, (fun z hz => by rw [List.mem_singleton.mp hz]; exact Or.inr ⟨by decide, _, cl_L_28, hN.1⟩), by decide, by decide, cl_L_13, ca_IAE, rfl⟩, fun q => ?_⟩) (fun h3 C9 hR9 hF => ⟨21, ⟨[_, _], _, _, _, rfl, (fun z hz => (List.mem_cons.mp hz).elim (fun e => by rw [e]; exact Or.inr ⟨by decide, _, cl_L_28, hN.2.1⟩) (fun hz => by rw [List.mem_singleton.mp hz]; exact Or.inr ⟨by decide, _, cl_L_13, hN.2.2⟩)), by decide, by decide, cl_L_15, ca_ISE, rfl⟩, fun q => ?_⟩))
  · dsimp only [Option.toList, List.cons_append, List.nil_append]
    have ko9 : gK C9 out = 24 := (hF.2 out hz ho).1.trans ko
    have no9 : gN C9 out = 1 := (hF.2 out hz ho).2.1.trans no
    refine x_i2l dL_battery_8 ?_
    refine x_last 0 1 hO dL_battery_9 ko9 rfl no9 (by decide) (by decide) ?_
    refine x_goto (tgt := 25) dL_battery_10 (by decide) ?_
    refine x_iconst (v := nI 0) dL_battery_25 (by decide) ?_
    refine x_iret dL_battery_26 rfl rfl ?_
    exact hq _ _ (RX_wJ hR9) (FrL_wJ (FrL_of hF)) (congrArg nI h0).symm (fun _ => up2_s)
  · refine x_astore dL_battery_13 (by decide) ?_
    refine x_iconst (v := nI 1) dL_battery_15 (by decide) ?_
    refine x_iret dL_battery_16 rfl rfl ?_
    exact hq _ _ (RX_mono hR9 (by omega)) (FrL_of hF) (congrArg nI h1).symm (fun h => absurd (h1.symm.trans h) (by decide))
  · refine x_astore dL_battery_17 (by decide) ?_
    refine x_iconst (v := nI 2) dL_battery_19 (by decide) ?_
    refine x_iret dL_battery_20 rfl rfl ?_
    exact hq _ _ (RX_mono hR9 (by omega)) (FrL_of hF) (congrArg nI h2).symm (fun h => absurd (h2.symm.trans h) (by decide))
  · refine x_astore dL_battery_21 (by decide) ?_
    refine x_iconst (v := nI 3) dL_battery_23 (by decide) ?_
    refine x_iret dL_battery_24 rfl rfl ?_
    exact hq _ _ (RX_mono hR9 (by omega)) (FrL_of hF) (congrArg nI h3).symm (fun h => absurd (h3.symm.trans h) (by decide))

abbrev hh_run : List (Nat × Nat × Nat × Nat) := [(0, 9, 12, 13)]
theorem o_L_run : mOkH M_L_run hh_run 3 := ⟨tl 985 (by decide +kernel) (by decide +kernel), tl 56 (by decide +kernel) (by decide +kernel), ⟨by decide +kernel, by decide +kernel⟩, by decide +kernel⟩
theorem s_L_run : Cond.static yL_run ∈ TT := tl 984 (by decide +kernel) (by decide +kernel)
theorem l_run {G : GT} {C : AH} {Q : QT} {X : XT} {out : Nat} {sa va : Nat → Nat} {x T n : Nat} {S : Nat → Nat} {ρ : Rw} {L : List Rw} {K : Nat → Option Rw} {w : Int32} (hN : GN G) (hO : GO G) (hX : GX G sa va) (hT : T ≤ 40000) (hR : RX T C x (S, n, ρ, L, K)) (ko : gK C out = 24) (no : gN C out = 1) (ho : out < x ∨ x + 255 ≤ out) (hz : out < gz C) (hq : ∀ (r : Int32) (C' : AH), RX (T + 48) C' x (aRun (S, n, ρ, L, K) w).2.2 → FrL C C' x → r = nI (aRun (S, n, ρ, L, K) w).1 → ((aRun (S, n, ρ, L, K) w).1 = 0 → gJ C' out 0 = (aRun (S, n, ρ, L, K) w).2.1.toInt64) → Q (some (.int r)) C') : MtH G M_L_run hh_run [.ref x, .int w, .ref out] C Q := by
  refine MtH_of (by decide) (Nat.le_of_ble_eq_true rfl) ?_
  intro p9 l9 e9 R9 s9 m9 args9 below9 meth9 c9 Qf9 F S9 E9 ht
  have kx := RX_K hR
  refine f_aload_n F dL_run_0 rfl ?_
  refine f_iconst (v := nI 0) F dL_run_1 (by decide) ?_
  refine f_aload_n F dL_run_2 rfl ?_
  refine f_iload_n F dL_run_3 rfl ?_
  refine f_callX (As := [_]) 6 S9 E9 ht hO dL_run_4 o_X4_run v_X4_run l_L_53 ⟨by decide, by decide⟩ kx ⟨by decide, by decide⟩ rfl ⟨by decide, by decide⟩ rfl rfl (Nat.le_of_ble_eq_true rfl) (t_run hO hX hT hR (fun h0 C9 hR9 hF => ?_) (fun h1 C9 hR9 hF => ⟨12, ⟨[], _, _, _, rfl, (fun z hz => by cases hz), by decide, by decide, cl_L_13, ca_IAE, rfl⟩, fun q => ?_⟩))
  · dsimp only [Option.toList, List.cons_append, List.nil_append]
    have ko9 : gK C9 out = 24 := (hF.2 out hz ho).1.trans ko
    have no9 : gN C9 out = 1 := (hF.2 out hz ho).2.1.trans no
    refine x_i2l dL_run_7 ?_
    refine x_last 0 1 hO dL_run_8 ko9 rfl no9 (by decide) (by decide) ?_
    refine x_goto (tgt := 15) dL_run_9 (by decide) ?_
    refine x_iconst (v := nI 0) dL_run_15 (by decide) ?_
    refine x_iret dL_run_16 rfl rfl ?_
    exact hq _ _ (RX_wJ hR9) (FrL_wJ (FrL_of hF)) (congrArg nI h0).symm (fun _ => up2_s)
  · refine x_astore_n dL_run_12 (by decide) ?_
    refine x_iconst (v := nI 1) dL_run_13 (by decide) ?_
    refine x_iret dL_run_14 rfl rfl ?_
    exact hq _ _ (RX_mono hR9 (by omega)) (FrL_of hF) (congrArg nI h1).symm (fun h => absurd (h1.symm.trans h) (by decide))

abbrev hh_set : List (Nat × Nat × Nat × Nat) := [(0, 10, 13, 13)]
theorem o_L_set : mOkH M_L_set hh_set 4 := ⟨tl 993 (by decide +kernel) (by decide +kernel), tl 56 (by decide +kernel) (by decide +kernel), ⟨by decide +kernel, by decide +kernel⟩, by decide +kernel⟩
theorem s_L_set : Cond.static yL_set ∈ TT := tl 992 (by decide +kernel) (by decide +kernel)
theorem l_set {G : GT} {C : AH} {Q : QT} {X : XT} {out : Nat} {sa va : Nat → Nat} {x T n : Nat} {S : Nat → Nat} {ρ : Rw} {L : List Rw} {K : Nat → Option Rw} {w v : Int32} (hN : GN G) (hO : GO G) (hX : GX G sa va) (hT : T ≤ 40000) (hR : RX T C x (S, n, ρ, L, K)) (ko : gK C out = 24) (no : gN C out = 1) (ho : out < x ∨ x + 255 ≤ out) (hz : out < gz C) (hq : ∀ (r : Int32) (C' : AH), RX (T) C' x (aSet (S, n, ρ, L, K) w v).2.2 → FrL C C' x → r = nI (aSet (S, n, ρ, L, K) w v).1 → ((aSet (S, n, ρ, L, K) w v).1 = 0 → gJ C' out 0 = (aSet (S, n, ρ, L, K) w v).2.1.toInt64) → Q (some (.int r)) C') : MtH G M_L_set hh_set [.ref x, .int w, .int v, .ref out] C Q := by
  refine MtH_of (by decide) (Nat.le_of_ble_eq_true rfl) ?_
  intro p9 l9 e9 R9 s9 m9 args9 below9 meth9 c9 Qf9 F S9 E9 ht
  have kx := RX_K hR
  refine f_aload_n F dL_set_0 rfl ?_
  refine f_iconst (v := nI 0) F dL_set_1 (by decide) ?_
  refine f_aload_n F dL_set_2 rfl ?_
  refine f_iload_n F dL_set_3 rfl ?_
  refine f_iload_n F dL_set_4 rfl ?_
  refine f_callX (As := [_, _]) 6 S9 E9 ht hO dL_set_5 o_X4_set v_X4_set l_L_56 ⟨by decide, by decide⟩ kx ⟨by decide, by decide⟩ rfl ⟨by decide, by decide⟩ rfl rfl (Nat.le_of_ble_eq_true rfl) (t_sett hO hX hT hR (fun h0 C9 hR9 hF => ?_) (fun h1 C9 hR9 hF => ⟨13, ⟨[], _, _, _, rfl, (fun z hz => by cases hz), by decide, by decide, cl_L_13, ca_IAE, rfl⟩, fun q => ?_⟩))
  · dsimp only [Option.toList, List.cons_append, List.nil_append]
    have ko9 : gK C9 out = 24 := (hF.2 out hz ho).1.trans ko
    have no9 : gN C9 out = 1 := (hF.2 out hz ho).2.1.trans no
    refine x_i2l dL_set_8 ?_
    refine x_last 0 1 hO dL_set_9 ko9 rfl no9 (by decide) (by decide) ?_
    refine x_goto (tgt := 17) dL_set_10 (by decide) ?_
    refine x_iconst (v := nI 0) dL_set_17 (by decide) ?_
    refine x_iret dL_set_18 rfl rfl ?_
    exact hq _ _ (RX_wJ hR9) (FrL_wJ (FrL_of hF)) (congrArg nI h0).symm (fun _ => up2_s)
  · refine x_astore dL_set_13 (by decide) ?_
    refine x_iconst (v := nI 1) dL_set_15 (by decide) ?_
    refine x_iret dL_set_16 rfl rfl ?_
    exact hq _ _ (RX_mono hR9 (by omega)) (FrL_of hF) (congrArg nI h1).symm (fun h => absurd (h1.symm.trans h) (by decide))

abbrev hh_undo : List (Nat × Nat × Nat × Nat) := [(0, 8, 11, 15)]
theorem o_L_undo : mOkH M_L_undo hh_undo 2 := ⟨tl 1003 (by decide +kernel) (by decide +kernel), tl 56 (by decide +kernel) (by decide +kernel), ⟨by decide +kernel, by decide +kernel⟩, by decide +kernel⟩
theorem s_L_undo : Cond.static yL_undo ∈ TT := tl 1002 (by decide +kernel) (by decide +kernel)
theorem l_undo {G : GT} {C : AH} {Q : QT} {X : XT} {out : Nat} {sa va : Nat → Nat} {x T n : Nat} {S : Nat → Nat} {ρ : Rw} {L : List Rw} {K : Nat → Option Rw} (hN : GN G) (hO : GO G) (hX : GX G sa va) (hT : T ≤ 40000) (hR : RX T C x (S, n, ρ, L, K)) (ko : gK C out = 24) (no : gN C out = 1) (ho : out < x ∨ x + 255 ≤ out) (hz : out < gz C) (hq : ∀ (r : Int32) (C' : AH), RX (T) C' x (aUndo (S, n, ρ, L, K)).2.2 → FrL C C' x → r = nI (aUndo (S, n, ρ, L, K)).1 → ((aUndo (S, n, ρ, L, K)).1 = 0 → gJ C' out 0 = (aUndo (S, n, ρ, L, K)).2.1.toInt64) → Q (some (.int r)) C') : MtH G M_L_undo hh_undo [.ref x, .ref out] C Q := by
  refine MtH_of (by decide) (Nat.le_of_ble_eq_true rfl) ?_
  intro p9 l9 e9 R9 s9 m9 args9 below9 meth9 c9 Qf9 F S9 E9 ht
  have kx := RX_K hR
  refine f_aload_n F dL_undo_0 rfl ?_
  refine f_iconst (v := nI 0) F dL_undo_1 (by decide) ?_
  refine f_aload_n F dL_undo_2 rfl ?_
  refine f_callX (As := []) 6 S9 E9 ht hO dL_undo_3 o_X4_undo v_X4_undo l_L_59 ⟨by decide, by decide⟩ kx ⟨by decide, by decide⟩ rfl ⟨by decide, by decide⟩ rfl rfl (Nat.le_of_ble_eq_true rfl) (t_undo hO hX hT hR (fun h0 C9 hR9 hF => ?_) (fun h1 C9 hR9 hF => ⟨11, ⟨[], _, _, _, rfl, (fun z hz => by cases hz), by decide, by decide, cl_L_15, ca_ISE, rfl⟩, fun q => ?_⟩))
  · dsimp only [Option.toList, List.cons_append, List.nil_append]
    have ko9 : gK C9 out = 24 := (hF.2 out hz ho).1.trans ko
    have no9 : gN C9 out = 1 := (hF.2 out hz ho).2.1.trans no
    refine x_i2l dL_undo_6 ?_
    refine x_last 0 1 hO dL_undo_7 ko9 rfl no9 (by decide) (by decide) ?_
    refine x_goto (tgt := 14) dL_undo_8 (by decide) ?_
    refine x_iconst (v := nI 0) dL_undo_14 (by decide) ?_
    refine x_iret dL_undo_15 rfl rfl ?_
    exact hq _ _ (RX_wJ hR9) (FrL_wJ (FrL_of hF)) (congrArg nI h0).symm (fun _ => up2_s)
  · refine x_astore_n dL_undo_11 (by decide) ?_
    refine x_iconst (v := nI 1) dL_undo_12 (by decide) ?_
    refine x_iret dL_undo_13 rfl rfl ?_
    exact hq _ _ (RX_mono hR9 (by omega)) (FrL_of hF) (congrArg nI h1).symm (fun h => absurd (h1.symm.trans h) (by decide))

abbrev hh_coming : List (Nat × Nat × Nat × Nat) := [(0, 10, 13, 13)]
theorem o_L_coming : mOkH M_L_coming hh_coming 4 := ⟨tl 1020 (by decide +kernel) (by decide +kernel), tl 56 (by decide +kernel) (by decide +kernel), ⟨by decide +kernel, by decide +kernel⟩, by decide +kernel⟩
theorem s_L_coming : Cond.static yL_coming ∈ TT := tl 1019 (by decide +kernel) (by decide +kernel)
theorem l_coming {G : GT} {C : AH} {Q : QT} {X : XT} {out : Nat} {sa va : Nat → Nat} {x T n : Nat} {S : Nat → Nat} {ρ : Rw} {L : List Rw} {K : Nat → Option Rw} {m w : Int32} (hN : GN G) (hO : GO G) (hX : GX G sa va) (hT : T ≤ 40000) (hR : RX T C x (S, n, ρ, L, K)) (ko : gK C out = 24) (no : gN C out = 1) (ho : out < x ∨ x + 255 ≤ out) (hz : out < gz C) (hq : ∀ (r : Int32) (C' : AH), RX (T) C' x (aComing (S, n, ρ, L, K) m w).2.2 → FrL C C' x → r = nI (aComing (S, n, ρ, L, K) m w).1 → ((aComing (S, n, ρ, L, K) m w).1 = 0 → gJ C' out 0 = (aComing (S, n, ρ, L, K) m w).2.1.toInt64) → Q (some (.int r)) C') : MtH G M_L_coming hh_coming [.ref x, .int m, .int w, .ref out] C Q := by
  refine MtH_of (by decide) (Nat.le_of_ble_eq_true rfl) ?_
  intro p9 l9 e9 R9 s9 m9 args9 below9 meth9 c9 Qf9 F S9 E9 ht
  have kx := RX_K hR
  refine f_aload_n F dL_coming_0 rfl ?_
  refine f_iconst (v := nI 0) F dL_coming_1 (by decide) ?_
  refine f_aload_n F dL_coming_2 rfl ?_
  refine f_iload_n F dL_coming_3 rfl ?_
  refine f_iload_n F dL_coming_4 rfl ?_
  refine f_callX (As := [_, _]) 6 S9 E9 ht hO dL_coming_5 o_X4_coming v_X4_coming l_L_62 ⟨by decide, by decide⟩ kx ⟨by decide, by decide⟩ rfl ⟨by decide, by decide⟩ rfl rfl (Nat.le_of_ble_eq_true rfl) (t_coming hO hX hT hR (fun h0 C9 hR9 hF => ?_) (fun h1 C9 hR9 hF => ⟨13, ⟨[], _, _, _, rfl, (fun z hz => by cases hz), by decide, by decide, cl_L_13, ca_IAE, rfl⟩, fun q => ?_⟩))
  · dsimp only [Option.toList, List.cons_append, List.nil_append]
    have ko9 : gK C9 out = 24 := (hF.2 out hz ho).1.trans ko
    have no9 : gN C9 out = 1 := (hF.2 out hz ho).2.1.trans no
    refine x_i2l dL_coming_8 ?_
    refine x_last 0 1 hO dL_coming_9 ko9 rfl no9 (by decide) (by decide) ?_
    refine x_goto (tgt := 17) dL_coming_10 (by decide) ?_
    refine x_iconst (v := nI 0) dL_coming_17 (by decide) ?_
    refine x_iret dL_coming_18 rfl rfl ?_
    exact hq _ _ (RX_wJ hR9) (FrL_wJ (FrL_of hF)) (congrArg nI h0).symm (fun _ => up2_s)
  · refine x_astore dL_coming_13 (by decide) ?_
    refine x_iconst (v := nI 1) dL_coming_15 (by decide) ?_
    refine x_iret dL_coming_16 rfl rfl ?_
    exact hq _ _ (RX_mono hR9 (by omega)) (FrL_of hF) (congrArg nI h1).symm (fun h => absurd (h1.symm.trans h) (by decide))

abbrev hh_firstMissed : List (Nat × Nat × Nat × Nat) := [(0, 9, 12, 28)]
theorem o_L_firstMissed : mOkH M_L_firstMissed hh_firstMissed 3 := ⟨tl 1027 (by decide +kernel) (by decide +kernel), tl 56 (by decide +kernel) (by decide +kernel), ⟨by decide +kernel, by decide +kernel⟩, by decide +kernel⟩
theorem s_L_firstMissed : Cond.static yL_firstMissed ∈ TT := tl 1026 (by decide +kernel) (by decide +kernel)
theorem l_firstMissed {G : GT} {C : AH} {Q : QT} {X : XT} {out : Nat} {sa va : Nat → Nat} {x T n : Nat} {S : Nat → Nat} {ρ : Rw} {L : List Rw} {K : Nat → Option Rw} {b : Int32} (hN : GN G) (hO : GO G) (hX : GX G sa va) (hT : T ≤ 40000) (hR : RX T C x (S, n, ρ, L, K)) (ko : gK C out = 24) (no : gN C out = 1) (ho : out < x ∨ x + 255 ≤ out) (hz : out < gz C) (hq : ∀ (r : Int32) (C' : AH), RX (T) C' x (aFirst (S, n, ρ, L, K) b).2.2 → FrL C C' x → r = nI (aFirst (S, n, ρ, L, K) b).1 → ((aFirst (S, n, ρ, L, K) b).1 = 0 → gJ C' out 0 = (aFirst (S, n, ρ, L, K) b).2.1.toInt64) → Q (some (.int r)) C') : MtH G M_L_firstMissed hh_firstMissed [.ref x, .int b, .ref out] C Q := by
  refine MtH_of (by decide) (Nat.le_of_ble_eq_true rfl) ?_
  intro p9 l9 e9 R9 s9 m9 args9 below9 meth9 c9 Qf9 F S9 E9 ht
  have kx := RX_K hR
  refine f_aload_n F dL_firstMissed_0 rfl ?_
  refine f_iconst (v := nI 0) F dL_firstMissed_1 (by decide) ?_
  refine f_aload_n F dL_firstMissed_2 rfl ?_
  refine f_iload_n F dL_firstMissed_3 rfl ?_
  refine f_callX (As := [_]) 6 S9 E9 ht hO dL_firstMissed_4 o_X4_firstMissed v_X4_firstMissed l_L_65 ⟨by decide, by decide⟩ kx ⟨by decide, by decide⟩ rfl ⟨by decide, by decide⟩ rfl rfl (Nat.le_of_ble_eq_true rfl) (t_firstMissed hO hX hT hR (fun h0 C9 hR9 hF => ?_) (fun h1 C9 hR9 hF => ⟨12, ⟨[], _, _, _, rfl, (fun z hz => by cases hz), by decide, by decide, cl_L_28, ca_IOE, rfl⟩, fun q => ?_⟩))
  · dsimp only [Option.toList, List.cons_append, List.nil_append]
    have ko9 : gK C9 out = 24 := (hF.2 out hz ho).1.trans ko
    have no9 : gN C9 out = 1 := (hF.2 out hz ho).2.1.trans no
    refine x_i2l dL_firstMissed_7 ?_
    refine x_last 0 1 hO dL_firstMissed_8 ko9 rfl no9 (by decide) (by decide) ?_
    refine x_goto (tgt := 15) dL_firstMissed_9 (by decide) ?_
    refine x_iconst (v := nI 0) dL_firstMissed_15 (by decide) ?_
    refine x_iret dL_firstMissed_16 rfl rfl ?_
    exact hq _ _ (RX_wJ hR9) (FrL_wJ (FrL_of hF)) (congrArg nI h0).symm (fun _ => up2_s)
  · refine x_astore_n dL_firstMissed_12 (by decide) ?_
    refine x_iconst (v := nI 1) dL_firstMissed_13 (by decide) ?_
    refine x_iret dL_firstMissed_14 rfl rfl ?_
    exact hq _ _ (RX_mono hR9 (by omega)) (FrL_of hF) (congrArg nI h1).symm (fun h => absurd (h1.symm.trans h) (by decide))

abbrev hh_leastLimit : List (Nat × Nat × Nat × Nat) := [(0, 9, 12, 13)]
theorem o_L_leastLimit : mOkH M_L_leastLimit hh_leastLimit 3 := ⟨tl 1038 (by decide +kernel) (by decide +kernel), tl 56 (by decide +kernel) (by decide +kernel), ⟨by decide +kernel, by decide +kernel⟩, by decide +kernel⟩
theorem s_L_leastLimit : Cond.static yL_leastLimit ∈ TT := tl 1037 (by decide +kernel) (by decide +kernel)
theorem l_leastLimit {G : GT} {C : AH} {Q : QT} {X : XT} {out : Nat} {sa va : Nat → Nat} {x T n : Nat} {S : Nat → Nat} {ρ : Rw} {L : List Rw} {K : Nat → Option Rw} {m : Int32} (hN : GN G) (hO : GO G) (hX : GX G sa va) (hT : T ≤ 40000) (hR : RX T C x (S, n, ρ, L, K)) (ko : gK C out = 24) (no : gN C out = 1) (ho : out < x ∨ x + 255 ≤ out) (hz : out < gz C) (hq : ∀ (r : Int32) (C' : AH), RX (T) C' x (aLeast (S, n, ρ, L, K) m).2.2 → FrL C C' x → r = nI (aLeast (S, n, ρ, L, K) m).1 → ((aLeast (S, n, ρ, L, K) m).1 = 0 → gJ C' out 0 = (aLeast (S, n, ρ, L, K) m).2.1.toInt64) → Q (some (.int r)) C') : MtH G M_L_leastLimit hh_leastLimit [.ref x, .int m, .ref out] C Q := by
  refine MtH_of (by decide) (Nat.le_of_ble_eq_true rfl) ?_
  intro p9 l9 e9 R9 s9 m9 args9 below9 meth9 c9 Qf9 F S9 E9 ht
  have kx := RX_K hR
  refine f_aload_n F dL_leastLimit_0 rfl ?_
  refine f_iconst (v := nI 0) F dL_leastLimit_1 (by decide) ?_
  refine f_aload_n F dL_leastLimit_2 rfl ?_
  refine f_iload_n F dL_leastLimit_3 rfl ?_
  refine f_callX (As := [_]) 6 S9 E9 ht hO dL_leastLimit_4 o_X4_leastLimit v_X4_leastLimit l_L_68 ⟨by decide, by decide⟩ kx ⟨by decide, by decide⟩ rfl ⟨by decide, by decide⟩ rfl rfl (Nat.le_of_ble_eq_true rfl) (t_leastLimit hO hX hT hR (fun h0 C9 hR9 hF => ?_) (fun h1 C9 hR9 hF => ⟨12, ⟨[], _, _, _, rfl, (fun z hz => by cases hz), by decide, by decide, cl_L_13, ca_IAE, rfl⟩, fun q => ?_⟩))
  · dsimp only [Option.toList, List.cons_append, List.nil_append]
    have ko9 : gK C9 out = 24 := (hF.2 out hz ho).1.trans ko
    have no9 : gN C9 out = 1 := (hF.2 out hz ho).2.1.trans no
    refine x_i2l dL_leastLimit_7 ?_
    refine x_last 0 1 hO dL_leastLimit_8 ko9 rfl no9 (by decide) (by decide) ?_
    refine x_goto (tgt := 15) dL_leastLimit_9 (by decide) ?_
    refine x_iconst (v := nI 0) dL_leastLimit_15 (by decide) ?_
    refine x_iret dL_leastLimit_16 rfl rfl ?_
    exact hq _ _ (RX_wJ hR9) (FrL_wJ (FrL_of hF)) (congrArg nI h0).symm (fun _ => up2_s)
  · refine x_astore_n dL_leastLimit_12 (by decide) ?_
    refine x_iconst (v := nI 1) dL_leastLimit_13 (by decide) ?_
    refine x_iret dL_leastLimit_14 rfl rfl ?_
    exact hq _ _ (RX_mono hR9 (by omega)) (FrL_of hF) (congrArg nI h1).symm (fun h => absurd (h1.symm.trans h) (by decide))

abbrev hh_bestNight : List (Nat × Nat × Nat × Nat) := [(0, 9, 12, 13)]
theorem o_L_bestNight : mOkH M_L_bestNight hh_bestNight 3 := ⟨tl 1049 (by decide +kernel) (by decide +kernel), tl 56 (by decide +kernel) (by decide +kernel), ⟨by decide +kernel, by decide +kernel⟩, by decide +kernel⟩
theorem s_L_bestNight : Cond.static yL_bestNight ∈ TT := tl 1048 (by decide +kernel) (by decide +kernel)
theorem l_bestNight {G : GT} {C : AH} {Q : QT} {X : XT} {out : Nat} {sa va : Nat → Nat} {x T n : Nat} {S : Nat → Nat} {ρ : Rw} {L : List Rw} {K : Nat → Option Rw} {m : Int32} (hN : GN G) (hO : GO G) (hX : GX G sa va) (hT : T ≤ 40000) (hR : RX T C x (S, n, ρ, L, K)) (ko : gK C out = 24) (no : gN C out = 1) (ho : out < x ∨ x + 255 ≤ out) (hz : out < gz C) (hq : ∀ (r : Int32) (C' : AH), RX (T) C' x (aBest (S, n, ρ, L, K) m).2.2 → FrL C C' x → r = nI (aBest (S, n, ρ, L, K) m).1 → ((aBest (S, n, ρ, L, K) m).1 = 0 → gJ C' out 0 = (aBest (S, n, ρ, L, K) m).2.1.toInt64) → Q (some (.int r)) C') : MtH G M_L_bestNight hh_bestNight [.ref x, .int m, .ref out] C Q := by
  refine MtH_of (by decide) (Nat.le_of_ble_eq_true rfl) ?_
  intro p9 l9 e9 R9 s9 m9 args9 below9 meth9 c9 Qf9 F S9 E9 ht
  have kx := RX_K hR
  refine f_aload_n F dL_bestNight_0 rfl ?_
  refine f_iconst (v := nI 0) F dL_bestNight_1 (by decide) ?_
  refine f_aload_n F dL_bestNight_2 rfl ?_
  refine f_iload_n F dL_bestNight_3 rfl ?_
  refine f_callX (As := [_]) 6 S9 E9 ht hO dL_bestNight_4 o_X4_bestNight v_X4_bestNight l_L_71 ⟨by decide, by decide⟩ kx ⟨by decide, by decide⟩ rfl ⟨by decide, by decide⟩ rfl rfl (Nat.le_of_ble_eq_true rfl) (t_bestNight hO hX hT hR (fun h0 C9 hR9 hF => ?_) (fun h1 C9 hR9 hF => ⟨12, ⟨[], _, _, _, rfl, (fun z hz => by cases hz), by decide, by decide, cl_L_13, ca_IAE, rfl⟩, fun q => ?_⟩))
  · dsimp only [Option.toList, List.cons_append, List.nil_append]
    have ko9 : gK C9 out = 24 := (hF.2 out hz ho).1.trans ko
    have no9 : gN C9 out = 1 := (hF.2 out hz ho).2.1.trans no
    refine x_i2l dL_bestNight_7 ?_
    refine x_last 0 1 hO dL_bestNight_8 ko9 rfl no9 (by decide) (by decide) ?_
    refine x_goto (tgt := 15) dL_bestNight_9 (by decide) ?_
    refine x_iconst (v := nI 0) dL_bestNight_15 (by decide) ?_
    refine x_iret dL_bestNight_16 rfl rfl ?_
    exact hq _ _ (RX_wJ hR9) (FrL_wJ (FrL_of hF)) (congrArg nI h0).symm (fun _ => up2_s)
  · refine x_astore_n dL_bestNight_12 (by decide) ?_
    refine x_iconst (v := nI 1) dL_bestNight_13 (by decide) ?_
    refine x_iret dL_bestNight_14 rfl rfl ?_
    exact hq _ _ (RX_mono hR9 (by omega)) (FrL_of hF) (congrArg nI h1).symm (fun h => absurd (h1.symm.trans h) (by decide))

abbrev hh_ifPlugged : List (Nat × Nat × Nat × Nat) := [(0, 10, 13, 13), (0, 10, 17, 15)]
theorem o_L_ifPlugged : mOkH M_L_ifPlugged hh_ifPlugged 4 := ⟨tl 1060 (by decide +kernel) (by decide +kernel), tl 56 (by decide +kernel) (by decide +kernel), ⟨by decide +kernel, by decide +kernel⟩, by decide +kernel⟩
theorem s_L_ifPlugged : Cond.static yL_ifPlugged ∈ TT := tl 1059 (by decide +kernel) (by decide +kernel)
theorem l_ifPlugged {G : GT} {C : AH} {Q : QT} {X : XT} {out : Nat} {sa va : Nat → Nat} {x T n : Nat} {S : Nat → Nat} {ρ : Rw} {L : List Rw} {K : Nat → Option Rw} {p m : Int32} (hN : GN G) (hO : GO G) (hX : GX G sa va) (hT : T ≤ 40000) (hR : RX T C x (S, n, ρ, L, K)) (ko : gK C out = 24) (no : gN C out = 1) (ho : out < x ∨ x + 255 ≤ out) (hz : out < gz C) (hq : ∀ (r : Int32) (C' : AH), RX (T) C' x (aIfP (S, n, ρ, L, K) p m).2.2 → FrL C C' x → r = nI (aIfP (S, n, ρ, L, K) p m).1 → ((aIfP (S, n, ρ, L, K) p m).1 = 0 → gJ C' out 0 = (aIfP (S, n, ρ, L, K) p m).2.1.toInt64) → Q (some (.int r)) C') : MtH G M_L_ifPlugged hh_ifPlugged [.ref x, .int p, .int m, .ref out] C Q := by
  refine MtH_of (by decide) (Nat.le_of_ble_eq_true rfl) ?_
  intro p9 l9 e9 R9 s9 m9 args9 below9 meth9 c9 Qf9 F S9 E9 ht
  have kx := RX_K hR
  refine f_aload_n F dL_ifPlugged_0 rfl ?_
  refine f_iconst (v := nI 0) F dL_ifPlugged_1 (by decide) ?_
  refine f_aload_n F dL_ifPlugged_2 rfl ?_
  refine f_iload_n F dL_ifPlugged_3 rfl ?_
  refine f_iload_n F dL_ifPlugged_4 rfl ?_
  refine f_callX (As := [_, _]) 6 S9 E9 ht hO dL_ifPlugged_5 o_X4_ifPlugged v_X4_ifPlugged l_L_74 ⟨by decide, by decide⟩ kx ⟨by decide, by decide⟩ rfl ⟨by decide, by decide⟩ rfl rfl (Nat.le_of_ble_eq_true rfl) (t_ifPlugged hO hX hT hR (fun h0 C9 hR9 hF => ?_) (fun h1 C9 hR9 hF => ⟨13, ⟨[], _, _, _, rfl, (fun z hz => by cases hz), by decide, by decide, cl_L_13, ca_IAE, rfl⟩, fun q => ?_⟩) (fun h2 C9 hR9 hF => ⟨17, ⟨[_], _, _, _, rfl, (fun z hz => by rw [List.mem_singleton.mp hz]; exact Or.inr ⟨by decide, _, cl_L_13, hN.2.2⟩), by decide, by decide, cl_L_15, ca_ISE, rfl⟩, fun q => ?_⟩))
  · dsimp only [Option.toList, List.cons_append, List.nil_append]
    have ko9 : gK C9 out = 24 := (hF.2 out hz ho).1.trans ko
    have no9 : gN C9 out = 1 := (hF.2 out hz ho).2.1.trans no
    refine x_i2l dL_ifPlugged_8 ?_
    refine x_last 0 1 hO dL_ifPlugged_9 ko9 rfl no9 (by decide) (by decide) ?_
    refine x_goto (tgt := 21) dL_ifPlugged_10 (by decide) ?_
    refine x_iconst (v := nI 0) dL_ifPlugged_21 (by decide) ?_
    refine x_iret dL_ifPlugged_22 rfl rfl ?_
    exact hq _ _ (RX_wJ hR9) (FrL_wJ (FrL_of hF)) (congrArg nI h0).symm (fun _ => up2_s)
  · refine x_astore dL_ifPlugged_13 (by decide) ?_
    refine x_iconst (v := nI 1) dL_ifPlugged_15 (by decide) ?_
    refine x_iret dL_ifPlugged_16 rfl rfl ?_
    exact hq _ _ (RX_mono hR9 (by omega)) (FrL_of hF) (congrArg nI h1).symm (fun h => absurd (h1.symm.trans h) (by decide))
  · refine x_astore dL_ifPlugged_17 (by decide) ?_
    refine x_iconst (v := nI 2) dL_ifPlugged_19 (by decide) ?_
    refine x_iret dL_ifPlugged_20 rfl rfl ?_
    exact hq _ _ (RX_mono hR9 (by omega)) (FrL_of hF) (congrArg nI h2).symm (fun h => absurd (h2.symm.trans h) (by decide))

abbrev hh_runScript : List (Nat × Nat × Nat × Nat) := [(0, 11, 14, 13)]
theorem o_L_runScript : mOkH M_L_runScript hh_runScript 4 := ⟨tl 1067 (by decide +kernel) (by decide +kernel), tl 56 (by decide +kernel) (by decide +kernel), ⟨by decide +kernel, by decide +kernel⟩, by decide +kernel⟩
theorem s_L_runScript : Cond.static yL_runScript ∈ TT := tl 1066 (by decide +kernel) (by decide +kernel)
theorem l_runScript {G : GT} {C : AH} {Q : QT} {X : XT} {out : Nat} {sa va : Nat → Nat} {x T n : Nat} {S : Nat → Nat} {ρ : Rw} {L : List Rw} {K : Nat → Option Rw} {w : Int32} {v : Int64} (hN : GN G) (hO : GO G) (hX : GX G sa va) (hT : T ≤ 40000) (hR : RX T C x (S, n, ρ, L, K)) (ko : gK C out = 24) (no : gN C out = 1) (ho : out < x ∨ x + 255 ≤ out) (hz : out < gz C) (hq : ∀ (r : Int32) (C' : AH), RX (T) C' x (aScript (S, n, ρ, L, K) w v).2.2 → FrL C C' x → r = nI (aScript (S, n, ρ, L, K) w v).1 → ((aScript (S, n, ρ, L, K) w v).1 = 0 → gJ C' out 0 = (aScript (S, n, ρ, L, K) w v).2.1.toInt64) → Q (some (.int r)) C') : MtH G M_L_runScript hh_runScript [.ref x, .int w, .long v, .ref out] C Q := by
  refine MtH_of (by decide) (Nat.le_of_ble_eq_true rfl) ?_
  intro p9 l9 e9 R9 s9 m9 args9 below9 meth9 c9 Qf9 F S9 E9 ht
  have kx := RX_K hR
  refine f_aload F dL_runScript_0 rfl ?_
  refine f_iconst (v := nI 0) F dL_runScript_2 (by decide) ?_
  refine f_aload_n F dL_runScript_3 rfl ?_
  refine f_iload_n F dL_runScript_4 rfl ?_
  refine f_lload_n F dL_runScript_5 rfl ?_
  refine f_callX (As := [_, _]) 6 S9 E9 ht hO dL_runScript_6 o_X4_runScript v_X4_runScript l_L_77 ⟨by decide, by decide⟩ kx ⟨by decide, by decide⟩ rfl ⟨by decide, by decide⟩ rfl rfl (Nat.le_of_ble_eq_true rfl) (t_runScript hO hX hT hR (fun h0 C9 hR9 hF => ?_) (fun h1 C9 hR9 hF => ⟨14, ⟨[], _, _, _, rfl, (fun z hz => by cases hz), by decide, by decide, cl_L_13, ca_IAE, rfl⟩, fun q => ?_⟩))
  · dsimp only [Option.toList, List.cons_append, List.nil_append]
    have ko9 : gK C9 out = 24 := (hF.2 out hz ho).1.trans ko
    have no9 : gN C9 out = 1 := (hF.2 out hz ho).2.1.trans no
    refine x_i2l dL_runScript_9 ?_
    refine x_last 0 1 hO dL_runScript_10 ko9 rfl no9 (by decide) (by decide) ?_
    refine x_goto (tgt := 18) dL_runScript_11 (by decide) ?_
    refine x_iconst (v := nI 0) dL_runScript_18 (by decide) ?_
    refine x_iret dL_runScript_19 rfl rfl ?_
    exact hq _ _ (RX_wJ hR9) (FrL_wJ (FrL_of hF)) (congrArg nI h0).symm (fun _ => up2_s)
  · refine x_astore dL_runScript_14 (by decide) ?_
    refine x_iconst (v := nI 1) dL_runScript_16 (by decide) ?_
    refine x_iret dL_runScript_17 rfl rfl ?_
    exact hq _ _ (RX_mono hR9 (by omega)) (FrL_of hF) (congrArg nI h1).symm (fun h => absurd (h1.symm.trans h) (by decide))

abbrev hh_simulate : List (Nat × Nat × Nat × Nat) := [(0, 11, 14, 13)]
theorem o_L_simulate : mOkH M_L_simulate hh_simulate 4 := ⟨tl 1102 (by decide +kernel) (by decide +kernel), tl 56 (by decide +kernel) (by decide +kernel), ⟨by decide +kernel, by decide +kernel⟩, by decide +kernel⟩
theorem s_L_simulate : Cond.static yL_simulate ∈ TT := tl 1101 (by decide +kernel) (by decide +kernel)
theorem l_simulate {G : GT} {C : AH} {Q : QT} {X : XT} {out : Nat} {sa va : Nat → Nat} {x T n : Nat} {S : Nat → Nat} {ρ : Rw} {L : List Rw} {K : Nat → Option Rw} {v : Int64} {w : Int32} (hN : GN G) (hO : GO G) (hX : GX G sa va) (hT : T ≤ 40000) (hR : RX T C x (S, n, ρ, L, K)) (ko : gK C out = 24) (no : gN C out = 1) (ho : out < x ∨ x + 255 ≤ out) (hz : out < gz C) (hq : ∀ (r : Int32) (C' : AH), RX (T) C' x (aSim (S, n, ρ, L, K) v w).2.2 → FrL C C' x → r = nI (aSim (S, n, ρ, L, K) v w).1 → ((aSim (S, n, ρ, L, K) v w).1 = 0 → gJ C' out 0 = (aSim (S, n, ρ, L, K) v w).2.1.toInt64) → Q (some (.int r)) C') : MtH G M_L_simulate hh_simulate [.ref x, .long v, .int w, .ref out] C Q := by
  refine MtH_of (by decide) (Nat.le_of_ble_eq_true rfl) ?_
  intro p9 l9 e9 R9 s9 m9 args9 below9 meth9 c9 Qf9 F S9 E9 ht
  have kx := RX_K hR
  refine f_aload F dL_simulate_0 rfl ?_
  refine f_iconst (v := nI 0) F dL_simulate_2 (by decide) ?_
  refine f_aload_n F dL_simulate_3 rfl ?_
  refine f_lload_n F dL_simulate_4 rfl ?_
  refine f_iload_n F dL_simulate_5 rfl ?_
  refine f_callX (As := [_, _]) 6 S9 E9 ht hO dL_simulate_6 o_X4_simulate v_X4_simulate l_L_81 ⟨by decide, by decide⟩ kx ⟨by decide, by decide⟩ rfl ⟨by decide, by decide⟩ rfl rfl (Nat.le_of_ble_eq_true rfl) (t_simulate hO hX hT hR (fun h0 C9 hR9 hF => ?_) (fun h1 C9 hR9 hF => ⟨14, ⟨[], _, _, _, rfl, (fun z hz => by cases hz), by decide, by decide, cl_L_13, ca_IAE, rfl⟩, fun q => ?_⟩))
  · dsimp only [Option.toList, List.cons_append, List.nil_append]
    have ko9 : gK C9 out = 24 := (hF.2 out hz ho).1.trans ko
    have no9 : gN C9 out = 1 := (hF.2 out hz ho).2.1.trans no
    refine x_i2l dL_simulate_9 ?_
    refine x_last 0 1 hO dL_simulate_10 ko9 rfl no9 (by decide) (by decide) ?_
    refine x_goto (tgt := 18) dL_simulate_11 (by decide) ?_
    refine x_iconst (v := nI 0) dL_simulate_18 (by decide) ?_
    refine x_iret dL_simulate_19 rfl rfl ?_
    exact hq _ _ (RX_wJ hR9) (FrL_wJ (FrL_of hF)) (congrArg nI h0).symm (fun _ => up2_s)
  · refine x_astore dL_simulate_14 (by decide) ?_
    refine x_iconst (v := nI 1) dL_simulate_16 (by decide) ?_
    refine x_iret dL_simulate_17 rfl rfl ?_
    exact hq _ _ (RX_mono hR9 (by omega)) (FrL_of hF) (congrArg nI h1).symm (fun h => absurd (h1.symm.trans h) (by decide))

abbrev hh_save : List (Nat × Nat × Nat × Nat) := [(0, 9, 12, 28)]
theorem o_L_save : mOkH M_L_save hh_save 3 := ⟨tl 1121 (by decide +kernel) (by decide +kernel), tl 56 (by decide +kernel) (by decide +kernel), ⟨by decide +kernel, by decide +kernel⟩, by decide +kernel⟩
theorem s_L_save : Cond.static yL_save ∈ TT := tl 1120 (by decide +kernel) (by decide +kernel)
theorem l_save {G : GT} {C : AH} {Q : QT} {X : XT} {out : Nat} {sa va : Nat → Nat} {x T n : Nat} {S : Nat → Nat} {ρ : Rw} {L : List Rw} {K : Nat → Option Rw} {v : Int32} (hN : GN G) (hO : GO G) (hX : GX G sa va) (hT : T ≤ 40000) (hR : RX T C x (S, n, ρ, L, K)) (ko : gK C out = 24) (no : gN C out = 1) (ho : out < x ∨ x + 255 ≤ out) (hz : out < gz C) (hq : ∀ (r : Int32) (C' : AH), RX (T) C' x (aSave (S, n, ρ, L, K) v).2.2 → FrL C C' x → r = nI (aSave (S, n, ρ, L, K) v).1 → ((aSave (S, n, ρ, L, K) v).1 = 0 → gJ C' out 0 = (aSave (S, n, ρ, L, K) v).2.1.toInt64) → Q (some (.int r)) C') : MtH G M_L_save hh_save [.ref x, .int v, .ref out] C Q := by
  refine MtH_of (by decide) (Nat.le_of_ble_eq_true rfl) ?_
  intro p9 l9 e9 R9 s9 m9 args9 below9 meth9 c9 Qf9 F S9 E9 ht
  have kx := RX_K hR
  refine f_aload_n F dL_save_0 rfl ?_
  refine f_iconst (v := nI 0) F dL_save_1 (by decide) ?_
  refine f_aload_n F dL_save_2 rfl ?_
  refine f_iload_n F dL_save_3 rfl ?_
  refine f_callX (As := [_]) 6 S9 E9 ht hO dL_save_4 o_X4_save v_X4_save l_L_85 ⟨by decide, by decide⟩ kx ⟨by decide, by decide⟩ rfl ⟨by decide, by decide⟩ rfl rfl (Nat.le_of_ble_eq_true rfl) (t_save hO hX hT hR (fun h0 C9 hR9 hF => ?_) (fun h1 C9 hR9 hF => ⟨12, ⟨[], _, _, _, rfl, (fun z hz => by cases hz), by decide, by decide, cl_L_28, ca_IOE, rfl⟩, fun q => ?_⟩))
  · dsimp only [Option.toList, List.cons_append, List.nil_append]
    have ko9 : gK C9 out = 24 := (hF.2 out hz ho).1.trans ko
    have no9 : gN C9 out = 1 := (hF.2 out hz ho).2.1.trans no
    refine x_i2l dL_save_7 ?_
    refine x_last 0 1 hO dL_save_8 ko9 rfl no9 (by decide) (by decide) ?_
    refine x_goto (tgt := 15) dL_save_9 (by decide) ?_
    refine x_iconst (v := nI 0) dL_save_15 (by decide) ?_
    refine x_iret dL_save_16 rfl rfl ?_
    exact hq _ _ (RX_wJ hR9) (FrL_wJ (FrL_of hF)) (congrArg nI h0).symm (fun _ => up2_s)
  · refine x_astore_n dL_save_12 (by decide) ?_
    refine x_iconst (v := nI 1) dL_save_13 (by decide) ?_
    refine x_iret dL_save_14 rfl rfl ?_
    exact hq _ _ (RX_mono hR9 (by omega)) (FrL_of hF) (congrArg nI h1).symm (fun h => absurd (h1.symm.trans h) (by decide))

abbrev hh_restore : List (Nat × Nat × Nat × Nat) := [(0, 9, 12, 28), (0, 9, 15, 15)]
theorem o_L_restore : mOkH M_L_restore hh_restore 3 := ⟨tl 1132 (by decide +kernel) (by decide +kernel), tl 56 (by decide +kernel) (by decide +kernel), ⟨by decide +kernel, by decide +kernel⟩, by decide +kernel⟩
theorem s_L_restore : Cond.static yL_restore ∈ TT := tl 1131 (by decide +kernel) (by decide +kernel)
theorem l_restore {G : GT} {C : AH} {Q : QT} {X : XT} {out : Nat} {sa va : Nat → Nat} {x T n : Nat} {S : Nat → Nat} {ρ : Rw} {L : List Rw} {K : Nat → Option Rw} {v : Int32} (hN : GN G) (hO : GO G) (hX : GX G sa va) (hT : T ≤ 40000) (hR : RX T C x (S, n, ρ, L, K)) (ko : gK C out = 24) (no : gN C out = 1) (ho : out < x ∨ x + 255 ≤ out) (hz : out < gz C) (hq : ∀ (r : Int32) (C' : AH), RX (T) C' x (aRestore (S, n, ρ, L, K) v).2.2 → FrL C C' x → r = nI (aRestore (S, n, ρ, L, K) v).1 → ((aRestore (S, n, ρ, L, K) v).1 = 0 → gJ C' out 0 = (aRestore (S, n, ρ, L, K) v).2.1.toInt64) → Q (some (.int r)) C') : MtH G M_L_restore hh_restore [.ref x, .int v, .ref out] C Q := by
  refine MtH_of (by decide) (Nat.le_of_ble_eq_true rfl) ?_
  intro p9 l9 e9 R9 s9 m9 args9 below9 meth9 c9 Qf9 F S9 E9 ht
  have kx := RX_K hR
  refine f_aload_n F dL_restore_0 rfl ?_
  refine f_iconst (v := nI 0) F dL_restore_1 (by decide) ?_
  refine f_aload_n F dL_restore_2 rfl ?_
  refine f_iload_n F dL_restore_3 rfl ?_
  refine f_callX (As := [_]) 6 S9 E9 ht hO dL_restore_4 o_X4_restore v_X4_restore l_L_88 ⟨by decide, by decide⟩ kx ⟨by decide, by decide⟩ rfl ⟨by decide, by decide⟩ rfl rfl (Nat.le_of_ble_eq_true rfl) (t_restore hO hX hT hR (fun h0 C9 hR9 hF => ?_) (fun h1 C9 hR9 hF => ⟨12, ⟨[], _, _, _, rfl, (fun z hz => by cases hz), by decide, by decide, cl_L_28, ca_IOE, rfl⟩, fun q => ?_⟩) (fun h2 C9 hR9 hF => ⟨15, ⟨[_], _, _, _, rfl, (fun z hz => by rw [List.mem_singleton.mp hz]; exact Or.inr ⟨by decide, _, cl_L_28, hN.2.1⟩), by decide, by decide, cl_L_15, ca_ISE, rfl⟩, fun q => ?_⟩))
  · dsimp only [Option.toList, List.cons_append, List.nil_append]
    have ko9 : gK C9 out = 24 := (hF.2 out hz ho).1.trans ko
    have no9 : gN C9 out = 1 := (hF.2 out hz ho).2.1.trans no
    refine x_i2l dL_restore_7 ?_
    refine x_last 0 1 hO dL_restore_8 ko9 rfl no9 (by decide) (by decide) ?_
    refine x_goto (tgt := 18) dL_restore_9 (by decide) ?_
    refine x_iconst (v := nI 0) dL_restore_18 (by decide) ?_
    refine x_iret dL_restore_19 rfl rfl ?_
    exact hq _ _ (RX_wJ hR9) (FrL_wJ (FrL_of hF)) (congrArg nI h0).symm (fun _ => up2_s)
  · refine x_astore_n dL_restore_12 (by decide) ?_
    refine x_iconst (v := nI 1) dL_restore_13 (by decide) ?_
    refine x_iret dL_restore_14 rfl rfl ?_
    exact hq _ _ (RX_mono hR9 (by omega)) (FrL_of hF) (congrArg nI h1).symm (fun h => absurd (h1.symm.trans h) (by decide))
  · refine x_astore_n dL_restore_15 (by decide) ?_
    refine x_iconst (v := nI 2) dL_restore_16 (by decide) ?_
    refine x_iret dL_restore_17 rfl rfl ?_
    exact hq _ _ (RX_mono hR9 (by omega)) (FrL_of hF) (congrArg nI h2).symm (fun h => absurd (h2.symm.trans h) (by decide))

