/-! the law: calls that catch -/
theorem cl_L_15 : Cond.classLink RL 15 "java/lang/IllegalArgumentException" ∈ TT := tl 599 (by decide +kernel) (by decide +kernel)
theorem ca_IAE : Cond.castable "java/lang/IllegalArgumentException" "java/lang/IllegalArgumentException" ∈ lw_tbl := tm 609 (by decide +kernel)
theorem cl_L_19 : Cond.classLink RL 19 "java/lang/IllegalStateException" ∈ TT := tl 229 (by decide +kernel) (by decide +kernel)
theorem ca_ISE : Cond.castable "java/lang/IllegalStateException" "java/lang/IllegalStateException" ∈ lw_tbl := tm 326 (by decide +kernel)
theorem cl_L_34 : Cond.classLink RL 34 "java/lang/IndexOutOfBoundsException" ∈ TT := tl 547 (by decide +kernel) (by decide +kernel)
theorem ca_IOE : Cond.castable "java/lang/IndexOutOfBoundsException" "java/lang/IndexOutOfBoundsException" ∈ lw_tbl := tm 557 (by decide +kernel)
def GN (G : GT) : Prop := va_Nc "java/lang/IllegalArgumentException" "java/lang/IndexOutOfBoundsException" (gS G) ∧ va_Nc "java/lang/IllegalStateException" "java/lang/IndexOutOfBoundsException" (gS G) ∧ va_Nc "java/lang/IllegalStateException" "java/lang/IllegalArgumentException" (gS G)
theorem RX_K {T x : Nat} {C : AH} {s : St} (h : RX T C x s) : gK C x = 6 := h.2.elim fun _ h => h.1.1
abbrev jI : Int64 := -9000000000000000001
abbrev jA : Int64 := -9000000000000000002
abbrev jS : Int64 := -9000000000000000003
/-- what a call that catches answers -/
def lw (e1 e2 e3 : Int64) (a : An) : Int64 := if a.1 = 0 then a.2.1.toInt64 else if a.1 = 1 then e1 else if a.1 = 2 then e2 else e3
theorem lw_0 {e1 e2 e3 : Int64} {a : An} (h : a.1 = 0) : lw e1 e2 e3 a = a.2.1.toInt64 := if_pos h
theorem lw_1 {e1 e2 e3 : Int64} {a : An} (h : a.1 = 1) : lw e1 e2 e3 a = e1 := by unfold lw; rw [if_neg (by omega), if_pos h]
theorem lw_2 {e1 e2 e3 : Int64} {a : An} (h : a.1 = 2) : lw e1 e2 e3 a = e2 := by unfold lw; rw [if_neg (by omega), if_neg (by omega), if_pos h]
theorem lw_3 {e1 e2 e3 : Int64} {a : An} (h : a.1 = 3) : lw e1 e2 e3 a = e3 := by unfold lw; rw [if_neg (by omega), if_neg (by omega), if_neg (by omega)]
theorem q_eq {Q : QT} {C : AH} {a b : Int64} (e : a = b) (h : Q (some (.long a)) C) : Q (some (.long b)) C := e ▸ h
/-- the object is in state s, and since C0 nothing beside it has changed -/
def RF (T : Nat) (C0 C : AH) (x : Nat) (s : St) : Prop := RX T C x s ∧ Fr C0 C x 255
theorem RF_mono {T U x : Nat} {C0 C : AH} {s : St} (h : RF T C0 C x s) (hU : T ≤ U) : RF U C0 C x s := ⟨RX_mono h.1 hU, h.2⟩
theorem RF_refl {T x : Nat} {C : AH} {s : St} (h : RX T C x s) : RF T C C x s := ⟨h, Fr_refl⟩
abbrev hh_append : List (Nat × Nat × Nat × Nat) := [(0, 6, 7, 15), (0, 6, 12, 19)]
theorem o_L_append : mOkH M_L_append hh_append 2 := ⟨tl 1076 (by decide +kernel) (by decide +kernel), tl 22 (by decide +kernel) (by decide +kernel), ⟨by decide +kernel, by decide +kernel⟩, by decide +kernel⟩
theorem s_L_append : Cond.static yL_append ∈ TT := tl 1075 (by decide +kernel) (by decide +kernel)
theorem l_append {G : GT} {C : AH} {Q : QT} {C0 : AH} {sa va : Nat → Nat} {x T : Nat} {s : St} {c : Int32} (hN : GN G) (hO : GO G) (hX : GX G sa va) (h : RF T C0 C x s) (hq : ∀ C' : AH, RF (T) C0 C' x (aAppend s c).2.2 → Q (some (.long (lw jA jS 0 (aAppend s c)))) C') : MtH G M_L_append hh_append [.ref x, .int c] C Q := by
  refine MtH_of (by decide) (Nat.le_of_ble_eq_true rfl) ?_
  intro p9 l9 e9 R9 s9 m9 args9 below9 meth9 c9 Qf9 F S9 E9 ht
  have kx := RX_K h.1
  refine f_aload_n F dL_append_0 rfl ?_
  refine f_iload_n F dL_append_1 rfl ?_
  refine f_callX (As := [_]) 6 S9 E9 ht hO dL_append_2 o_X4_append v_X4_append l_L_9 ⟨by decide, by decide⟩ kx ⟨by decide, by decide⟩ rfl ⟨by decide, by decide⟩ rfl rfl (Nat.le_of_ble_eq_true rfl) (t_append hO hX h.1 (fun h0 C9 hR9 hF => ?_) (fun h1 C9 hR9 hF => ⟨7, ⟨[], _, _, _, rfl, (fun z hz => by cases hz), by decide, by decide, cl_L_15, ca_IAE, rfl⟩, fun q => ?_⟩) (fun h2 C9 hR9 hF => ⟨12, ⟨[_], _, _, _, rfl, (fun z hz => by rw [List.mem_singleton.mp hz]; exact Or.inr ⟨by decide, _, cl_L_15, hN.2.2⟩), by decide, by decide, cl_L_19, ca_ISE, rfl⟩, fun q => ?_⟩))
  · dsimp only [Option.toList, List.cons_append, List.nil_append]
    refine x_i2l dL_append_5 ?_
    refine x_lret dL_append_6 rfl ?_
    exact q_eq (lw_0 h0) (hq _ ⟨hR9, Fr_trans h.2 hF⟩)
  · refine x_astore_n dL_append_7 (by decide) ?_
    refine x_ldc2 hO.1 dL_append_8 k_L_17 ?_
    refine x_lret dL_append_11 rfl ?_
    exact q_eq (lw_1 h1) (hq _ ⟨RX_mono hR9 (by omega), Fr_trans h.2 hF⟩)
  · refine x_astore_n dL_append_12 (by decide) ?_
    refine x_ldc2 hO.1 dL_append_13 k_L_21 ?_
    refine x_lret dL_append_16 rfl ?_
    exact q_eq (lw_2 h2) (hq _ ⟨RX_mono hR9 (by omega), Fr_trans h.2 hF⟩)

abbrev hh_load : List (Nat × Nat × Nat × Nat) := [(0, 5, 6, 19)]
theorem o_L_load : mOkH M_L_load hh_load 1 := ⟨tl 228 (by decide +kernel) (by decide +kernel), tl 22 (by decide +kernel) (by decide +kernel), ⟨by decide +kernel, by decide +kernel⟩, by decide +kernel⟩
theorem s_L_load : Cond.static yL_load ∈ TT := tl 227 (by decide +kernel) (by decide +kernel)
theorem l_load {G : GT} {C : AH} {Q : QT} {C0 : AH} {sa va : Nat → Nat} {x T n : Nat} {S : Nat → Nat} {ρ : Rw} {L : List Rw} {K : Nat → Option Rw} (hN : GN G) (hO : GO G) (hX : GX G sa va) (hT : T ≤ 40000) (h : RF T C0 C x (S, n, ρ, L, K)) (h6 : 6000 ≤ T) (hq : ∀ C' : AH, RF (T) C0 C' x (aLoad (S, n, ρ, L, K)).2.2 → Q (some (.long (lw jS 0 0 (aLoad (S, n, ρ, L, K))))) C') : MtH G M_L_load hh_load [.ref x] C Q := by
  refine MtH_of (by decide) (Nat.le_of_ble_eq_true rfl) ?_
  intro p9 l9 e9 R9 s9 m9 args9 below9 meth9 c9 Qf9 F S9 E9 ht
  have kx := RX_K h.1
  refine f_aload_n F dL_load_0 rfl ?_
  refine f_callX (As := []) 6 S9 E9 ht hO dL_load_1 o_X4_load v_X4_load l_L_23 ⟨by decide, by decide⟩ kx ⟨by decide, by decide⟩ rfl ⟨by decide, by decide⟩ rfl rfl (Nat.le_of_ble_eq_true rfl) (t_load hO hX hT h.1 h6 (fun h0 C9 hR9 hF => ?_) (fun h1 C9 hR9 hF => ⟨6, ⟨[], _, _, _, rfl, (fun z hz => by cases hz), by decide, by decide, cl_L_19, ca_ISE, rfl⟩, fun q => ?_⟩))
  · dsimp only [Option.toList, List.cons_append, List.nil_append]
    refine x_i2l dL_load_4 ?_
    refine x_lret dL_load_5 rfl ?_
    exact q_eq (lw_0 h0) (hq _ ⟨hR9, Fr_trans h.2 hF⟩)
  · refine x_astore_n dL_load_6 (by decide) ?_
    refine x_ldc2 hO.1 dL_load_7 k_L_21 ?_
    refine x_lret dL_load_10 rfl ?_
    exact q_eq (lw_1 h1) (hq _ ⟨RX_mono hR9 (by omega), Fr_trans h.2 hF⟩)

abbrev hh_about : List (Nat × Nat × Nat × Nat) := [(0, 6, 7, 15)]
theorem o_L_about : mOkH M_L_about hh_about 2 := ⟨tl 598 (by decide +kernel) (by decide +kernel), tl 22 (by decide +kernel) (by decide +kernel), ⟨by decide +kernel, by decide +kernel⟩, by decide +kernel⟩
theorem s_L_about : Cond.static yL_about ∈ TT := tl 597 (by decide +kernel) (by decide +kernel)
theorem l_about {G : GT} {C : AH} {Q : QT} {C0 : AH} {sa va : Nat → Nat} {x T n : Nat} {S : Nat → Nat} {ρ : Rw} {L : List Rw} {K : Nat → Option Rw} {w : Int32} (hN : GN G) (hO : GO G) (hX : GX G sa va) (hT : T ≤ 40000) (h : RF T C0 C x (S, n, ρ, L, K)) (hq : ∀ C' : AH, RF (T) C0 C' x (aAbout (S, n, ρ, L, K) w).2.2 → Q (some (.long (lw jA 0 0 (aAbout (S, n, ρ, L, K) w)))) C') : MtH G M_L_about hh_about [.ref x, .int w] C Q := by
  refine MtH_of (by decide) (Nat.le_of_ble_eq_true rfl) ?_
  intro p9 l9 e9 R9 s9 m9 args9 below9 meth9 c9 Qf9 F S9 E9 ht
  have kx := RX_K h.1
  refine f_aload_n F dL_about_0 rfl ?_
  refine f_iload_n F dL_about_1 rfl ?_
  refine f_callX (As := [_]) 6 S9 E9 ht hO dL_about_2 o_X4_about v_X4_about l_L_27 ⟨by decide, by decide⟩ kx ⟨by decide, by decide⟩ rfl ⟨by decide, by decide⟩ rfl rfl (Nat.le_of_ble_eq_true rfl) (t_about hO hX hT h.1 (fun h0 C9 hR9 hF => ?_) (fun h1 C9 hR9 hF => ⟨7, ⟨[], _, _, _, rfl, (fun z hz => by cases hz), by decide, by decide, cl_L_15, ca_IAE, rfl⟩, fun q => ?_⟩))
  · dsimp only [Option.toList, List.cons_append, List.nil_append]
    refine x_i2l dL_about_5 ?_
    refine x_lret dL_about_6 rfl ?_
    exact q_eq (lw_0 h0) (hq _ ⟨hR9, Fr_trans h.2 hF⟩)
  · refine x_astore_n dL_about_7 (by decide) ?_
    refine x_ldc2 hO.1 dL_about_8 k_L_17 ?_
    refine x_lret dL_about_11 rfl ?_
    exact q_eq (lw_1 h1) (hq _ ⟨RX_mono hR9 (by omega), Fr_trans h.2 hF⟩)

abbrev hh_bus : List (Nat × Nat × Nat × Nat) := [(0, 7, 8, 34), (0, 7, 13, 15)]
theorem o_L_bus : mOkH M_L_bus hh_bus 3 := ⟨tl 650 (by decide +kernel) (by decide +kernel), tl 22 (by decide +kernel) (by decide +kernel), ⟨by decide +kernel, by decide +kernel⟩, by decide +kernel⟩
theorem s_L_bus : Cond.static yL_bus ∈ TT := tl 649 (by decide +kernel) (by decide +kernel)
theorem l_bus {G : GT} {C : AH} {Q : QT} {C0 : AH} {sa va : Nat → Nat} {x T n : Nat} {S : Nat → Nat} {ρ : Rw} {L : List Rw} {K : Nat → Option Rw} {b w : Int32} (hN : GN G) (hO : GO G) (hX : GX G sa va) (hT : T ≤ 40000) (h : RF T C0 C x (S, n, ρ, L, K)) (hq : ∀ C' : AH, RF (T) C0 C' x (aBus (S, n, ρ, L, K) b w).2.2 → Q (some (.long (lw jI jA 0 (aBus (S, n, ρ, L, K) b w)))) C') : MtH G M_L_bus hh_bus [.ref x, .int b, .int w] C Q := by
  refine MtH_of (by decide) (Nat.le_of_ble_eq_true rfl) ?_
  intro p9 l9 e9 R9 s9 m9 args9 below9 meth9 c9 Qf9 F S9 E9 ht
  have kx := RX_K h.1
  refine f_aload_n F dL_bus_0 rfl ?_
  refine f_iload_n F dL_bus_1 rfl ?_
  refine f_iload_n F dL_bus_2 rfl ?_
  refine f_callX (As := [_, _]) 6 S9 E9 ht hO dL_bus_3 o_X4_bus v_X4_bus l_L_30 ⟨by decide, by decide⟩ kx ⟨by decide, by decide⟩ rfl ⟨by decide, by decide⟩ rfl rfl (Nat.le_of_ble_eq_true rfl) (t_bus hO hX hT h.1 (fun h0 C9 hR9 hF => ?_) (fun h1 C9 hR9 hF => ⟨8, ⟨[], _, _, _, rfl, (fun z hz => by cases hz), by decide, by decide, cl_L_34, ca_IOE, rfl⟩, fun q => ?_⟩) (fun h2 C9 hR9 hF => ⟨13, ⟨[_], _, _, _, rfl, (fun z hz => by rw [List.mem_singleton.mp hz]; exact Or.inr ⟨by decide, _, cl_L_34, hN.1⟩), by decide, by decide, cl_L_15, ca_IAE, rfl⟩, fun q => ?_⟩))
  · dsimp only [Option.toList, List.cons_append, List.nil_append]
    refine x_i2l dL_bus_6 ?_
    refine x_lret dL_bus_7 rfl ?_
    exact q_eq (lw_0 h0) (hq _ ⟨hR9, Fr_trans h.2 hF⟩)
  · refine x_astore_n dL_bus_8 (by decide) ?_
    refine x_ldc2 hO.1 dL_bus_9 k_L_36 ?_
    refine x_lret dL_bus_12 rfl ?_
    exact q_eq (lw_1 h1) (hq _ ⟨RX_mono hR9 (by omega), Fr_trans h.2 hF⟩)
  · refine x_astore_n dL_bus_13 (by decide) ?_
    refine x_ldc2 hO.1 dL_bus_14 k_L_17 ?_
    refine x_lret dL_bus_17 rfl ?_
    exact q_eq (lw_2 h2) (hq _ ⟨RX_mono hR9 (by omega), Fr_trans h.2 hF⟩)

abbrev hh_charger : List (Nat × Nat × Nat × Nat) := [(0, 7, 8, 34), (0, 7, 13, 15)]
theorem o_L_charger : mOkH M_L_charger hh_charger 3 := ⟨tl 683 (by decide +kernel) (by decide +kernel), tl 22 (by decide +kernel) (by decide +kernel), ⟨by decide +kernel, by decide +kernel⟩, by decide +kernel⟩
theorem s_L_charger : Cond.static yL_charger ∈ TT := tl 682 (by decide +kernel) (by decide +kernel)
theorem l_charger {G : GT} {C : AH} {Q : QT} {C0 : AH} {sa va : Nat → Nat} {x T n : Nat} {S : Nat → Nat} {ρ : Rw} {L : List Rw} {K : Nat → Option Rw} {c w : Int32} (hN : GN G) (hO : GO G) (hX : GX G sa va) (hT : T ≤ 40000) (h : RF T C0 C x (S, n, ρ, L, K)) (hq : ∀ C' : AH, RF (T) C0 C' x (aCharger (S, n, ρ, L, K) c w).2.2 → Q (some (.long (lw jI jA 0 (aCharger (S, n, ρ, L, K) c w)))) C') : MtH G M_L_charger hh_charger [.ref x, .int c, .int w] C Q := by
  refine MtH_of (by decide) (Nat.le_of_ble_eq_true rfl) ?_
  intro p9 l9 e9 R9 s9 m9 args9 below9 meth9 c9 Qf9 F S9 E9 ht
  have kx := RX_K h.1
  refine f_aload_n F dL_charger_0 rfl ?_
  refine f_iload_n F dL_charger_1 rfl ?_
  refine f_iload_n F dL_charger_2 rfl ?_
  refine f_callX (As := [_, _]) 6 S9 E9 ht hO dL_charger_3 o_X4_charger v_X4_charger l_L_38 ⟨by decide, by decide⟩ kx ⟨by decide, by decide⟩ rfl ⟨by decide, by decide⟩ rfl rfl (Nat.le_of_ble_eq_true rfl) (t_charger hO hX hT h.1 (fun h0 C9 hR9 hF => ?_) (fun h1 C9 hR9 hF => ⟨8, ⟨[], _, _, _, rfl, (fun z hz => by cases hz), by decide, by decide, cl_L_34, ca_IOE, rfl⟩, fun q => ?_⟩) (fun h2 C9 hR9 hF => ⟨13, ⟨[_], _, _, _, rfl, (fun z hz => by rw [List.mem_singleton.mp hz]; exact Or.inr ⟨by decide, _, cl_L_34, hN.1⟩), by decide, by decide, cl_L_15, ca_IAE, rfl⟩, fun q => ?_⟩))
  · dsimp only [Option.toList, List.cons_append, List.nil_append]
    refine x_i2l dL_charger_6 ?_
    refine x_lret dL_charger_7 rfl ?_
    exact q_eq (lw_0 h0) (hq _ ⟨hR9, Fr_trans h.2 hF⟩)
  · refine x_astore_n dL_charger_8 (by decide) ?_
    refine x_ldc2 hO.1 dL_charger_9 k_L_36 ?_
    refine x_lret dL_charger_12 rfl ?_
    exact q_eq (lw_1 h1) (hq _ ⟨RX_mono hR9 (by omega), Fr_trans h.2 hF⟩)
  · refine x_astore_n dL_charger_13 (by decide) ?_
    refine x_ldc2 hO.1 dL_charger_14 k_L_17 ?_
    refine x_lret dL_charger_17 rfl ?_
    exact q_eq (lw_2 h2) (hq _ ⟨RX_mono hR9 (by omega), Fr_trans h.2 hF⟩)

abbrev hh_sign : List (Nat × Nat × Nat × Nat) := [(0, 7, 8, 34), (0, 7, 13, 15)]
theorem o_L_sign : mOkH M_L_sign hh_sign 3 := ⟨tl 701 (by decide +kernel) (by decide +kernel), tl 22 (by decide +kernel) (by decide +kernel), ⟨by decide +kernel, by decide +kernel⟩, by decide +kernel⟩
theorem s_L_sign : Cond.static yL_sign ∈ TT := tl 700 (by decide +kernel) (by decide +kernel)
theorem l_sign {G : GT} {C : AH} {Q : QT} {C0 : AH} {sa va : Nat → Nat} {x T n : Nat} {S : Nat → Nat} {ρ : Rw} {L : List Rw} {K : Nat → Option Rw} {b w : Int32} (hN : GN G) (hO : GO G) (hX : GX G sa va) (hT : T ≤ 40000) (h : RF T C0 C x (S, n, ρ, L, K)) (hq : ∀ C' : AH, RF (T) C0 C' x (aSign (S, n, ρ, L, K) b w).2.2 → Q (some (.long (lw jI jA 0 (aSign (S, n, ρ, L, K) b w)))) C') : MtH G M_L_sign hh_sign [.ref x, .int b, .int w] C Q := by
  refine MtH_of (by decide) (Nat.le_of_ble_eq_true rfl) ?_
  intro p9 l9 e9 R9 s9 m9 args9 below9 meth9 c9 Qf9 F S9 E9 ht
  have kx := RX_K h.1
  refine f_aload_n F dL_sign_0 rfl ?_
  refine f_iload_n F dL_sign_1 rfl ?_
  refine f_iload_n F dL_sign_2 rfl ?_
  refine f_callX (As := [_, _]) 6 S9 E9 ht hO dL_sign_3 o_X4_sign v_X4_sign l_L_41 ⟨by decide, by decide⟩ kx ⟨by decide, by decide⟩ rfl ⟨by decide, by decide⟩ rfl rfl (Nat.le_of_ble_eq_true rfl) (t_sign hO hX hT h.1 (fun h0 C9 hR9 hF => ?_) (fun h1 C9 hR9 hF => ⟨8, ⟨[], _, _, _, rfl, (fun z hz => by cases hz), by decide, by decide, cl_L_34, ca_IOE, rfl⟩, fun q => ?_⟩) (fun h2 C9 hR9 hF => ⟨13, ⟨[_], _, _, _, rfl, (fun z hz => by rw [List.mem_singleton.mp hz]; exact Or.inr ⟨by decide, _, cl_L_34, hN.1⟩), by decide, by decide, cl_L_15, ca_IAE, rfl⟩, fun q => ?_⟩))
  · dsimp only [Option.toList, List.cons_append, List.nil_append]
    refine x_i2l dL_sign_6 ?_
    refine x_lret dL_sign_7 rfl ?_
    exact q_eq (lw_0 h0) (hq _ ⟨hR9, Fr_trans h.2 hF⟩)
  · refine x_astore_n dL_sign_8 (by decide) ?_
    refine x_ldc2 hO.1 dL_sign_9 k_L_36 ?_
    refine x_lret dL_sign_12 rfl ?_
    exact q_eq (lw_1 h1) (hq _ ⟨RX_mono hR9 (by omega), Fr_trans h.2 hF⟩)
  · refine x_astore_n dL_sign_13 (by decide) ?_
    refine x_ldc2 hO.1 dL_sign_14 k_L_17 ?_
    refine x_lret dL_sign_17 rfl ?_
    exact q_eq (lw_2 h2) (hq _ ⟨RX_mono hR9 (by omega), Fr_trans h.2 hF⟩)

abbrev hh_setting : List (Nat × Nat × Nat × Nat) := [(0, 6, 7, 15)]
theorem o_L_setting : mOkH M_L_setting hh_setting 2 := ⟨tl 639 (by decide +kernel) (by decide +kernel), tl 22 (by decide +kernel) (by decide +kernel), ⟨by decide +kernel, by decide +kernel⟩, by decide +kernel⟩
theorem s_L_setting : Cond.static yL_setting ∈ TT := tl 638 (by decide +kernel) (by decide +kernel)
theorem l_setting {G : GT} {C : AH} {Q : QT} {C0 : AH} {sa va : Nat → Nat} {x T n : Nat} {S : Nat → Nat} {ρ : Rw} {L : List Rw} {K : Nat → Option Rw} {w : Int32} (hN : GN G) (hO : GO G) (hX : GX G sa va) (hT : T ≤ 40000) (h : RF T C0 C x (S, n, ρ, L, K)) (hq : ∀ C' : AH, RF (T) C0 C' x (aSetting (S, n, ρ, L, K) w).2.2 → Q (some (.long (lw jA 0 0 (aSetting (S, n, ρ, L, K) w)))) C') : MtH G M_L_setting hh_setting [.ref x, .int w] C Q := by
  refine MtH_of (by decide) (Nat.le_of_ble_eq_true rfl) ?_
  intro p9 l9 e9 R9 s9 m9 args9 below9 meth9 c9 Qf9 F S9 E9 ht
  have kx := RX_K h.1
  refine f_aload_n F dL_setting_0 rfl ?_
  refine f_iload_n F dL_setting_1 rfl ?_
  refine f_callX (As := [_]) 6 S9 E9 ht hO dL_setting_2 o_X4_setting v_X4_setting l_L_44 ⟨by decide, by decide⟩ kx ⟨by decide, by decide⟩ rfl ⟨by decide, by decide⟩ rfl rfl (Nat.le_of_ble_eq_true rfl) (t_setting hO hX hT h.1 (fun h0 C9 hR9 hF => ?_) (fun h1 C9 hR9 hF => ⟨7, ⟨[], _, _, _, rfl, (fun z hz => by cases hz), by decide, by decide, cl_L_15, ca_IAE, rfl⟩, fun q => ?_⟩))
  · dsimp only [Option.toList, List.cons_append, List.nil_append]
    refine x_i2l dL_setting_5 ?_
    refine x_lret dL_setting_6 rfl ?_
    exact q_eq (lw_0 h0) (hq _ ⟨hR9, Fr_trans h.2 hF⟩)
  · refine x_astore_n dL_setting_7 (by decide) ?_
    refine x_ldc2 hO.1 dL_setting_8 k_L_17 ?_
    refine x_lret dL_setting_11 rfl ?_
    exact q_eq (lw_1 h1) (hq _ ⟨RX_mono hR9 (by omega), Fr_trans h.2 hF⟩)

abbrev hh_addBus : List (Nat × Nat × Nat × Nat) := [(0, 12, 13, 15), (0, 12, 19, 19)]
theorem o_L_addBus : mOkH M_L_addBus hh_addBus 6 := ⟨tl 900 (by decide +kernel) (by decide +kernel), tl 22 (by decide +kernel) (by decide +kernel), ⟨by decide +kernel, by decide +kernel⟩, by decide +kernel⟩
theorem s_L_addBus : Cond.static yL_addBus ∈ TT := tl 899 (by decide +kernel) (by decide +kernel)
theorem l_addBus {G : GT} {C : AH} {Q : QT} {C0 : AH} {sa va : Nat → Nat} {x T n : Nat} {S : Nat → Nat} {ρ : Rw} {L : List Rw} {K : Nat → Option Rw} {a b c d e : Int32} (hN : GN G) (hO : GO G) (hX : GX G sa va) (hT : T ≤ 40000) (h : RF T C0 C x (S, n, ρ, L, K)) (hq : ∀ C' : AH, RF (T) C0 C' x (aAddBus (S, n, ρ, L, K) a b c d e).2.2 → Q (some (.long (lw jA jS 0 (aAddBus (S, n, ρ, L, K) a b c d e)))) C') : MtH G M_L_addBus hh_addBus [.ref x, .int a, .int b, .int c, .int d, .int e] C Q := by
  refine MtH_of (by decide) (Nat.le_of_ble_eq_true rfl) ?_
  intro p9 l9 e9 R9 s9 m9 args9 below9 meth9 c9 Qf9 F S9 E9 ht
  have kx := RX_K h.1
  refine f_aload_n F dL_addBus_0 rfl ?_
  refine f_iload_n F dL_addBus_1 rfl ?_
  refine f_iload_n F dL_addBus_2 rfl ?_
  refine f_iload_n F dL_addBus_3 rfl ?_
  refine f_iload F dL_addBus_4 rfl ?_
  refine f_iload F dL_addBus_6 rfl ?_
  refine f_callX (As := [_, _, _, _, _]) 6 S9 E9 ht hO dL_addBus_8 o_X4_addBus v_X4_addBus l_L_47 ⟨by decide, by decide⟩ kx ⟨by decide, by decide⟩ rfl ⟨by decide, by decide⟩ rfl rfl (Nat.le_of_ble_eq_true rfl) (t_addBus hO hX hT h.1 (fun h0 C9 hR9 hF => ?_) (fun h1 C9 hR9 hF => ⟨13, ⟨[], _, _, _, rfl, (fun z hz => by cases hz), by decide, by decide, cl_L_15, ca_IAE, rfl⟩, fun q => ?_⟩) (fun h2 C9 hR9 hF => ⟨19, ⟨[_], _, _, _, rfl, (fun z hz => by rw [List.mem_singleton.mp hz]; exact Or.inr ⟨by decide, _, cl_L_15, hN.2.2⟩), by decide, by decide, cl_L_19, ca_ISE, rfl⟩, fun q => ?_⟩))
  · dsimp only [Option.toList, List.cons_append, List.nil_append]
    refine x_i2l dL_addBus_11 ?_
    refine x_lret dL_addBus_12 rfl ?_
    exact q_eq (lw_0 h0) (hq _ ⟨hR9, Fr_trans h.2 hF⟩)
  · refine x_astore dL_addBus_13 (by decide) ?_
    refine x_ldc2 hO.1 dL_addBus_15 k_L_17 ?_
    refine x_lret dL_addBus_18 rfl ?_
    exact q_eq (lw_1 h1) (hq _ ⟨RX_mono hR9 (by omega), Fr_trans h.2 hF⟩)
  · refine x_astore dL_addBus_19 (by decide) ?_
    refine x_ldc2 hO.1 dL_addBus_21 k_L_21 ?_
    refine x_lret dL_addBus_24 rfl ?_
    exact q_eq (lw_2 h2) (hq _ ⟨RX_mono hR9 (by omega), Fr_trans h.2 hF⟩)

abbrev hh_addCharger : List (Nat × Nat × Nat × Nat) := [(0, 6, 7, 15), (0, 6, 12, 19)]
theorem o_L_addCharger : mOkH M_L_addCharger hh_addCharger 2 := ⟨tl 921 (by decide +kernel) (by decide +kernel), tl 22 (by decide +kernel) (by decide +kernel), ⟨by decide +kernel, by decide +kernel⟩, by decide +kernel⟩
theorem s_L_addCharger : Cond.static yL_addCharger ∈ TT := tl 920 (by decide +kernel) (by decide +kernel)
theorem l_addCharger {G : GT} {C : AH} {Q : QT} {C0 : AH} {sa va : Nat → Nat} {x T n : Nat} {S : Nat → Nat} {ρ : Rw} {L : List Rw} {K : Nat → Option Rw} {w : Int32} (hN : GN G) (hO : GO G) (hX : GX G sa va) (hT : T ≤ 40000) (h : RF T C0 C x (S, n, ρ, L, K)) (hq : ∀ C' : AH, RF (T) C0 C' x (aAddC (S, n, ρ, L, K) w).2.2 → Q (some (.long (lw jA jS 0 (aAddC (S, n, ρ, L, K) w)))) C') : MtH G M_L_addCharger hh_addCharger [.ref x, .int w] C Q := by
  refine MtH_of (by decide) (Nat.le_of_ble_eq_true rfl) ?_
  intro p9 l9 e9 R9 s9 m9 args9 below9 meth9 c9 Qf9 F S9 E9 ht
  have kx := RX_K h.1
  refine f_aload_n F dL_addCharger_0 rfl ?_
  refine f_iload_n F dL_addCharger_1 rfl ?_
  refine f_callX (As := [_]) 6 S9 E9 ht hO dL_addCharger_2 o_X4_addCharger v_X4_addCharger l_L_51 ⟨by decide, by decide⟩ kx ⟨by decide, by decide⟩ rfl ⟨by decide, by decide⟩ rfl rfl (Nat.le_of_ble_eq_true rfl) (t_addCharger hO hX hT h.1 (fun h0 C9 hR9 hF => ?_) (fun h1 C9 hR9 hF => ⟨7, ⟨[], _, _, _, rfl, (fun z hz => by cases hz), by decide, by decide, cl_L_15, ca_IAE, rfl⟩, fun q => ?_⟩) (fun h2 C9 hR9 hF => ⟨12, ⟨[_], _, _, _, rfl, (fun z hz => by rw [List.mem_singleton.mp hz]; exact Or.inr ⟨by decide, _, cl_L_15, hN.2.2⟩), by decide, by decide, cl_L_19, ca_ISE, rfl⟩, fun q => ?_⟩))
  · dsimp only [Option.toList, List.cons_append, List.nil_append]
    refine x_i2l dL_addCharger_5 ?_
    refine x_lret dL_addCharger_6 rfl ?_
    exact q_eq (lw_0 h0) (hq _ ⟨hR9, Fr_trans h.2 hF⟩)
  · refine x_astore_n dL_addCharger_7 (by decide) ?_
    refine x_ldc2 hO.1 dL_addCharger_8 k_L_17 ?_
    refine x_lret dL_addCharger_11 rfl ?_
    exact q_eq (lw_1 h1) (hq _ ⟨RX_mono hR9 (by omega), Fr_trans h.2 hF⟩)
  · refine x_astore_n dL_addCharger_12 (by decide) ?_
    refine x_ldc2 hO.1 dL_addCharger_13 k_L_21 ?_
    refine x_lret dL_addCharger_16 rfl ?_
    exact q_eq (lw_2 h2) (hq _ ⟨RX_mono hR9 (by omega), Fr_trans h.2 hF⟩)

abbrev hh_route : List (Nat × Nat × Nat × Nat) := [(0, 10, 11, 34), (0, 10, 17, 15), (0, 10, 23, 19)]
theorem o_L_route : mOkH M_L_route hh_route 5 := ⟨tl 943 (by decide +kernel) (by decide +kernel), tl 22 (by decide +kernel) (by decide +kernel), ⟨by decide +kernel, by decide +kernel⟩, by decide +kernel⟩
theorem s_L_route : Cond.static yL_route ∈ TT := tl 942 (by decide +kernel) (by decide +kernel)
theorem l_route {G : GT} {C : AH} {Q : QT} {C0 : AH} {sa va : Nat → Nat} {x T n : Nat} {S : Nat → Nat} {ρ : Rw} {L : List Rw} {K : Nat → Option Rw} {b a l k : Int32} (hN : GN G) (hO : GO G) (hX : GX G sa va) (hT : T ≤ 40000) (h : RF T C0 C x (S, n, ρ, L, K)) (hq : ∀ C' : AH, RF (T) C0 C' x (aRoute (S, n, ρ, L, K) b a l k).2.2 → Q (some (.long (lw jI jA jS (aRoute (S, n, ρ, L, K) b a l k)))) C') : MtH G M_L_route hh_route [.ref x, .int b, .int a, .int l, .int k] C Q := by
  refine MtH_of (by decide) (Nat.le_of_ble_eq_true rfl) ?_
  intro p9 l9 e9 R9 s9 m9 args9 below9 meth9 c9 Qf9 F S9 E9 ht
  have kx := RX_K h.1
  refine f_aload_n F dL_route_0 rfl ?_
  refine f_iload_n F dL_route_1 rfl ?_
  refine f_iload_n F dL_route_2 rfl ?_
  refine f_iload_n F dL_route_3 rfl ?_
  refine f_iload F dL_route_4 rfl ?_
  refine f_callX (As := [_, _, _, _]) 6 S9 E9 ht hO dL_route_6 o_X4_route v_X4_route l_L_54 ⟨by decide, by decide⟩ kx ⟨by decide, by decide⟩ rfl ⟨by decide, by decide⟩ rfl rfl (Nat.le_of_ble_eq_true rfl) (t_route hO hX hT h.1 (fun h0 C9 hR9 hF => ?_) (fun h1 C9 hR9 hF => ⟨11, ⟨[], _, _, _, rfl, (fun z hz => by cases hz), by decide, by decide, cl_L_34, ca_IOE, rfl⟩, fun q => ?_⟩) (fun h2 C9 hR9 hF => ⟨17, ⟨[_], _, _, _, rfl, (fun z hz => by rw [List.mem_singleton.mp hz]; exact Or.inr ⟨by decide, _, cl_L_34, hN.1⟩), by decide, by decide, cl_L_15, ca_IAE, rfl⟩, fun q => ?_⟩) (fun h3 C9 hR9 hF => ⟨23, ⟨[_, _], _, _, _, rfl, (fun z hz => (List.mem_cons.mp hz).elim (fun e => by rw [e]; exact Or.inr ⟨by decide, _, cl_L_34, hN.2.1⟩) (fun hz => by rw [List.mem_singleton.mp hz]; exact Or.inr ⟨by decide, _, cl_L_15, hN.2.2⟩)), by decide, by decide, cl_L_19, ca_ISE, rfl⟩, fun q => ?_⟩))
  · dsimp only [Option.toList, List.cons_append, List.nil_append]
    refine x_i2l dL_route_9 ?_
    refine x_lret dL_route_10 rfl ?_
    exact q_eq (lw_0 h0) (hq _ ⟨hR9, Fr_trans h.2 hF⟩)
  · refine x_astore dL_route_11 (by decide) ?_
    refine x_ldc2 hO.1 dL_route_13 k_L_36 ?_
    refine x_lret dL_route_16 rfl ?_
    exact q_eq (lw_1 h1) (hq _ ⟨RX_mono hR9 (by omega), Fr_trans h.2 hF⟩)
  · refine x_astore dL_route_17 (by decide) ?_
    refine x_ldc2 hO.1 dL_route_19 k_L_17 ?_
    refine x_lret dL_route_22 rfl ?_
    exact q_eq (lw_2 h2) (hq _ ⟨RX_mono hR9 (by omega), Fr_trans h.2 hF⟩)
  · refine x_astore dL_route_23 (by decide) ?_
    refine x_ldc2 hO.1 dL_route_25 k_L_21 ?_
    refine x_lret dL_route_28 rfl ?_
    exact q_eq (lw_3 h3) (hq _ ⟨RX_mono hR9 (by omega), Fr_trans h.2 hF⟩)

abbrev hh_battery : List (Nat × Nat × Nat × Nat) := [(0, 7, 8, 34), (0, 7, 13, 15), (0, 7, 18, 19)]
theorem o_L_battery : mOkH M_L_battery hh_battery 3 := ⟨tl 956 (by decide +kernel) (by decide +kernel), tl 22 (by decide +kernel) (by decide +kernel), ⟨by decide +kernel, by decide +kernel⟩, by decide +kernel⟩
theorem s_L_battery : Cond.static yL_battery ∈ TT := tl 955 (by decide +kernel) (by decide +kernel)
theorem l_battery {G : GT} {C : AH} {Q : QT} {C0 : AH} {sa va : Nat → Nat} {x T n : Nat} {S : Nat → Nat} {ρ : Rw} {L : List Rw} {K : Nat → Option Rw} {b a : Int32} (hN : GN G) (hO : GO G) (hX : GX G sa va) (hT : T ≤ 40000) (h : RF T C0 C x (S, n, ρ, L, K)) (hq : ∀ C' : AH, RF (T) C0 C' x (aBattery (S, n, ρ, L, K) b a).2.2 → Q (some (.long (lw jI jA jS (aBattery (S, n, ρ, L, K) b a)))) C') : MtH G M_L_battery hh_battery [.ref x, .int b, .int a] C Q := by
  refine MtH_of (by decide) (Nat.le_of_ble_eq_true rfl) ?_
  intro p9 l9 e9 R9 s9 m9 args9 below9 meth9 c9 Qf9 F S9 E9 ht
  have kx := RX_K h.1
  refine f_aload_n F dL_battery_0 rfl ?_
  refine f_iload_n F dL_battery_1 rfl ?_
  refine f_iload_n F dL_battery_2 rfl ?_
  refine f_callX (As := [_, _]) 6 S9 E9 ht hO dL_battery_3 o_X4_battery v_X4_battery l_L_58 ⟨by decide, by decide⟩ kx ⟨by decide, by decide⟩ rfl ⟨by decide, by decide⟩ rfl rfl (Nat.le_of_ble_eq_true rfl) (t_battery hO hX hT h.1 (fun h0 C9 hR9 hF => ?_) (fun h1 C9 hR9 hF => ⟨8, ⟨[], _, _, _, rfl, (fun z hz => by cases hz), by decide, by decide, cl_L_34, ca_IOE, rfl⟩, fun q => ?_⟩) (fun h2 C9 hR9 hF => ⟨13, ⟨[_], _, _, _, rfl, (fun z hz => by rw [List.mem_singleton.mp hz]; exact Or.inr ⟨by decide, _, cl_L_34, hN.1⟩), by decide, by decide, cl_L_15, ca_IAE, rfl⟩, fun q => ?_⟩) (fun h3 C9 hR9 hF => ⟨18, ⟨[_, _], _, _, _, rfl, (fun z hz => (List.mem_cons.mp hz).elim (fun e => by rw [e]; exact Or.inr ⟨by decide, _, cl_L_34, hN.2.1⟩) (fun hz => by rw [List.mem_singleton.mp hz]; exact Or.inr ⟨by decide, _, cl_L_15, hN.2.2⟩)), by decide, by decide, cl_L_19, ca_ISE, rfl⟩, fun q => ?_⟩))
  · dsimp only [Option.toList, List.cons_append, List.nil_append]
    refine x_i2l dL_battery_6 ?_
    refine x_lret dL_battery_7 rfl ?_
    exact q_eq (lw_0 h0) (hq _ ⟨hR9, Fr_trans h.2 hF⟩)
  · refine x_astore_n dL_battery_8 (by decide) ?_
    refine x_ldc2 hO.1 dL_battery_9 k_L_36 ?_
    refine x_lret dL_battery_12 rfl ?_
    exact q_eq (lw_1 h1) (hq _ ⟨RX_mono hR9 (by omega), Fr_trans h.2 hF⟩)
  · refine x_astore_n dL_battery_13 (by decide) ?_
    refine x_ldc2 hO.1 dL_battery_14 k_L_17 ?_
    refine x_lret dL_battery_17 rfl ?_
    exact q_eq (lw_2 h2) (hq _ ⟨RX_mono hR9 (by omega), Fr_trans h.2 hF⟩)
  · refine x_astore_n dL_battery_18 (by decide) ?_
    refine x_ldc2 hO.1 dL_battery_19 k_L_21 ?_
    refine x_lret dL_battery_22 rfl ?_
    exact q_eq (lw_3 h3) (hq _ ⟨RX_mono hR9 (by omega), Fr_trans h.2 hF⟩)

abbrev hh_run : List (Nat × Nat × Nat × Nat) := [(0, 6, 7, 15)]
theorem o_L_run : mOkH M_L_run hh_run 2 := ⟨tl 964 (by decide +kernel) (by decide +kernel), tl 22 (by decide +kernel) (by decide +kernel), ⟨by decide +kernel, by decide +kernel⟩, by decide +kernel⟩
theorem s_L_run : Cond.static yL_run ∈ TT := tl 963 (by decide +kernel) (by decide +kernel)
theorem l_run {G : GT} {C : AH} {Q : QT} {C0 : AH} {sa va : Nat → Nat} {x T n : Nat} {S : Nat → Nat} {ρ : Rw} {L : List Rw} {K : Nat → Option Rw} {w : Int32} (hN : GN G) (hO : GO G) (hX : GX G sa va) (hT : T ≤ 40000) (h : RF T C0 C x (S, n, ρ, L, K)) (hq : ∀ C' : AH, RF (T + 48) C0 C' x (aRun (S, n, ρ, L, K) w).2.2 → Q (some (.long (lw jA 0 0 (aRun (S, n, ρ, L, K) w)))) C') : MtH G M_L_run hh_run [.ref x, .int w] C Q := by
  refine MtH_of (by decide) (Nat.le_of_ble_eq_true rfl) ?_
  intro p9 l9 e9 R9 s9 m9 args9 below9 meth9 c9 Qf9 F S9 E9 ht
  have kx := RX_K h.1
  refine f_aload_n F dL_run_0 rfl ?_
  refine f_iload_n F dL_run_1 rfl ?_
  refine f_callX (As := [_]) 6 S9 E9 ht hO dL_run_2 o_X4_run v_X4_run l_L_61 ⟨by decide, by decide⟩ kx ⟨by decide, by decide⟩ rfl ⟨by decide, by decide⟩ rfl rfl (Nat.le_of_ble_eq_true rfl) (t_run hO hX hT h.1 (fun h0 C9 hR9 hF => ?_) (fun h1 C9 hR9 hF => ⟨7, ⟨[], _, _, _, rfl, (fun z hz => by cases hz), by decide, by decide, cl_L_15, ca_IAE, rfl⟩, fun q => ?_⟩))
  · dsimp only [Option.toList, List.cons_append, List.nil_append]
    refine x_i2l dL_run_5 ?_
    refine x_lret dL_run_6 rfl ?_
    exact q_eq (lw_0 h0) (hq _ ⟨hR9, Fr_trans h.2 hF⟩)
  · refine x_astore_n dL_run_7 (by decide) ?_
    refine x_ldc2 hO.1 dL_run_8 k_L_17 ?_
    refine x_lret dL_run_11 rfl ?_
    exact q_eq (lw_1 h1) (hq _ ⟨RX_mono hR9 (by omega), Fr_trans h.2 hF⟩)

abbrev hh_set : List (Nat × Nat × Nat × Nat) := [(0, 7, 8, 15)]
theorem o_L_set : mOkH M_L_set hh_set 3 := ⟨tl 971 (by decide +kernel) (by decide +kernel), tl 22 (by decide +kernel) (by decide +kernel), ⟨by decide +kernel, by decide +kernel⟩, by decide +kernel⟩
theorem s_L_set : Cond.static yL_set ∈ TT := tl 970 (by decide +kernel) (by decide +kernel)
theorem l_set {G : GT} {C : AH} {Q : QT} {C0 : AH} {sa va : Nat → Nat} {x T n : Nat} {S : Nat → Nat} {ρ : Rw} {L : List Rw} {K : Nat → Option Rw} {w v : Int32} (hN : GN G) (hO : GO G) (hX : GX G sa va) (hT : T ≤ 40000) (h : RF T C0 C x (S, n, ρ, L, K)) (hq : ∀ C' : AH, RF (T) C0 C' x (aSet (S, n, ρ, L, K) w v).2.2 → Q (some (.long (lw jA 0 0 (aSet (S, n, ρ, L, K) w v)))) C') : MtH G M_L_set hh_set [.ref x, .int w, .int v] C Q := by
  refine MtH_of (by decide) (Nat.le_of_ble_eq_true rfl) ?_
  intro p9 l9 e9 R9 s9 m9 args9 below9 meth9 c9 Qf9 F S9 E9 ht
  have kx := RX_K h.1
  refine f_aload_n F dL_set_0 rfl ?_
  refine f_iload_n F dL_set_1 rfl ?_
  refine f_iload_n F dL_set_2 rfl ?_
  refine f_callX (As := [_, _]) 6 S9 E9 ht hO dL_set_3 o_X4_set v_X4_set l_L_64 ⟨by decide, by decide⟩ kx ⟨by decide, by decide⟩ rfl ⟨by decide, by decide⟩ rfl rfl (Nat.le_of_ble_eq_true rfl) (t_sett hO hX hT h.1 (fun h0 C9 hR9 hF => ?_) (fun h1 C9 hR9 hF => ⟨8, ⟨[], _, _, _, rfl, (fun z hz => by cases hz), by decide, by decide, cl_L_15, ca_IAE, rfl⟩, fun q => ?_⟩))
  · dsimp only [Option.toList, List.cons_append, List.nil_append]
    refine x_i2l dL_set_6 ?_
    refine x_lret dL_set_7 rfl ?_
    exact q_eq (lw_0 h0) (hq _ ⟨hR9, Fr_trans h.2 hF⟩)
  · refine x_astore_n dL_set_8 (by decide) ?_
    refine x_ldc2 hO.1 dL_set_9 k_L_17 ?_
    refine x_lret dL_set_12 rfl ?_
    exact q_eq (lw_1 h1) (hq _ ⟨RX_mono hR9 (by omega), Fr_trans h.2 hF⟩)

abbrev hh_undo : List (Nat × Nat × Nat × Nat) := [(0, 5, 6, 19)]
theorem o_L_undo : mOkH M_L_undo hh_undo 1 := ⟨tl 1120 (by decide +kernel) (by decide +kernel), tl 22 (by decide +kernel) (by decide +kernel), ⟨by decide +kernel, by decide +kernel⟩, by decide +kernel⟩
theorem s_L_undo : Cond.static yL_undo ∈ TT := tl 1119 (by decide +kernel) (by decide +kernel)
theorem l_undo {G : GT} {C : AH} {Q : QT} {C0 : AH} {sa va : Nat → Nat} {x T n : Nat} {S : Nat → Nat} {ρ : Rw} {L : List Rw} {K : Nat → Option Rw} (hN : GN G) (hO : GO G) (hX : GX G sa va) (hT : T ≤ 40000) (h : RF T C0 C x (S, n, ρ, L, K)) (hq : ∀ C' : AH, RF (T) C0 C' x (aUndo (S, n, ρ, L, K)).2.2 → Q (some (.long (lw jS 0 0 (aUndo (S, n, ρ, L, K))))) C') : MtH G M_L_undo hh_undo [.ref x] C Q := by
  refine MtH_of (by decide) (Nat.le_of_ble_eq_true rfl) ?_
  intro p9 l9 e9 R9 s9 m9 args9 below9 meth9 c9 Qf9 F S9 E9 ht
  have kx := RX_K h.1
  refine f_aload_n F dL_undo_0 rfl ?_
  refine f_callX (As := []) 6 S9 E9 ht hO dL_undo_1 o_X4_undo v_X4_undo l_L_67 ⟨by decide, by decide⟩ kx ⟨by decide, by decide⟩ rfl ⟨by decide, by decide⟩ rfl rfl (Nat.le_of_ble_eq_true rfl) (t_undo hO hX hT h.1 (fun h0 C9 hR9 hF => ?_) (fun h1 C9 hR9 hF => ⟨6, ⟨[], _, _, _, rfl, (fun z hz => by cases hz), by decide, by decide, cl_L_19, ca_ISE, rfl⟩, fun q => ?_⟩))
  · dsimp only [Option.toList, List.cons_append, List.nil_append]
    refine x_i2l dL_undo_4 ?_
    refine x_lret dL_undo_5 rfl ?_
    exact q_eq (lw_0 h0) (hq _ ⟨hR9, Fr_trans h.2 hF⟩)
  · refine x_astore_n dL_undo_6 (by decide) ?_
    refine x_ldc2 hO.1 dL_undo_7 k_L_21 ?_
    refine x_lret dL_undo_10 rfl ?_
    exact q_eq (lw_1 h1) (hq _ ⟨RX_mono hR9 (by omega), Fr_trans h.2 hF⟩)

abbrev hh_coming : List (Nat × Nat × Nat × Nat) := [(0, 7, 8, 15)]
theorem o_L_coming : mOkH M_L_coming hh_coming 3 := ⟨tl 981 (by decide +kernel) (by decide +kernel), tl 22 (by decide +kernel) (by decide +kernel), ⟨by decide +kernel, by decide +kernel⟩, by decide +kernel⟩
theorem s_L_coming : Cond.static yL_coming ∈ TT := tl 980 (by decide +kernel) (by decide +kernel)
theorem l_coming {G : GT} {C : AH} {Q : QT} {C0 : AH} {sa va : Nat → Nat} {x T n : Nat} {S : Nat → Nat} {ρ : Rw} {L : List Rw} {K : Nat → Option Rw} {m w : Int32} (hN : GN G) (hO : GO G) (hX : GX G sa va) (hT : T ≤ 40000) (h : RF T C0 C x (S, n, ρ, L, K)) (hq : ∀ C' : AH, RF (T) C0 C' x (aComing (S, n, ρ, L, K) m w).2.2 → Q (some (.long (lw jA 0 0 (aComing (S, n, ρ, L, K) m w)))) C') : MtH G M_L_coming hh_coming [.ref x, .int m, .int w] C Q := by
  refine MtH_of (by decide) (Nat.le_of_ble_eq_true rfl) ?_
  intro p9 l9 e9 R9 s9 m9 args9 below9 meth9 c9 Qf9 F S9 E9 ht
  have kx := RX_K h.1
  refine f_aload_n F dL_coming_0 rfl ?_
  refine f_iload_n F dL_coming_1 rfl ?_
  refine f_iload_n F dL_coming_2 rfl ?_
  refine f_callX (As := [_, _]) 6 S9 E9 ht hO dL_coming_3 o_X4_coming v_X4_coming l_L_70 ⟨by decide, by decide⟩ kx ⟨by decide, by decide⟩ rfl ⟨by decide, by decide⟩ rfl rfl (Nat.le_of_ble_eq_true rfl) (t_coming hO hX hT h.1 (fun h0 C9 hR9 hF => ?_) (fun h1 C9 hR9 hF => ⟨8, ⟨[], _, _, _, rfl, (fun z hz => by cases hz), by decide, by decide, cl_L_15, ca_IAE, rfl⟩, fun q => ?_⟩))
  · dsimp only [Option.toList, List.cons_append, List.nil_append]
    refine x_i2l dL_coming_6 ?_
    refine x_lret dL_coming_7 rfl ?_
    exact q_eq (lw_0 h0) (hq _ ⟨hR9, Fr_trans h.2 hF⟩)
  · refine x_astore_n dL_coming_8 (by decide) ?_
    refine x_ldc2 hO.1 dL_coming_9 k_L_17 ?_
    refine x_lret dL_coming_12 rfl ?_
    exact q_eq (lw_1 h1) (hq _ ⟨RX_mono hR9 (by omega), Fr_trans h.2 hF⟩)

abbrev hh_firstMissed : List (Nat × Nat × Nat × Nat) := [(0, 6, 7, 34)]
theorem o_L_firstMissed : mOkH M_L_firstMissed hh_firstMissed 2 := ⟨tl 988 (by decide +kernel) (by decide +kernel), tl 22 (by decide +kernel) (by decide +kernel), ⟨by decide +kernel, by decide +kernel⟩, by decide +kernel⟩
theorem s_L_firstMissed : Cond.static yL_firstMissed ∈ TT := tl 987 (by decide +kernel) (by decide +kernel)
theorem l_firstMissed {G : GT} {C : AH} {Q : QT} {C0 : AH} {sa va : Nat → Nat} {x T n : Nat} {S : Nat → Nat} {ρ : Rw} {L : List Rw} {K : Nat → Option Rw} {b : Int32} (hN : GN G) (hO : GO G) (hX : GX G sa va) (hT : T ≤ 40000) (h : RF T C0 C x (S, n, ρ, L, K)) (hq : ∀ C' : AH, RF (T) C0 C' x (aFirst (S, n, ρ, L, K) b).2.2 → Q (some (.long (lw jI 0 0 (aFirst (S, n, ρ, L, K) b)))) C') : MtH G M_L_firstMissed hh_firstMissed [.ref x, .int b] C Q := by
  refine MtH_of (by decide) (Nat.le_of_ble_eq_true rfl) ?_
  intro p9 l9 e9 R9 s9 m9 args9 below9 meth9 c9 Qf9 F S9 E9 ht
  have kx := RX_K h.1
  refine f_aload_n F dL_firstMissed_0 rfl ?_
  refine f_iload_n F dL_firstMissed_1 rfl ?_
  refine f_callX (As := [_]) 6 S9 E9 ht hO dL_firstMissed_2 o_X4_firstMissed v_X4_firstMissed l_L_73 ⟨by decide, by decide⟩ kx ⟨by decide, by decide⟩ rfl ⟨by decide, by decide⟩ rfl rfl (Nat.le_of_ble_eq_true rfl) (t_firstMissed hO hX hT h.1 (fun h0 C9 hR9 hF => ?_) (fun h1 C9 hR9 hF => ⟨7, ⟨[], _, _, _, rfl, (fun z hz => by cases hz), by decide, by decide, cl_L_34, ca_IOE, rfl⟩, fun q => ?_⟩))
  · dsimp only [Option.toList, List.cons_append, List.nil_append]
    refine x_i2l dL_firstMissed_5 ?_
    refine x_lret dL_firstMissed_6 rfl ?_
    exact q_eq (lw_0 h0) (hq _ ⟨hR9, Fr_trans h.2 hF⟩)
  · refine x_astore_n dL_firstMissed_7 (by decide) ?_
    refine x_ldc2 hO.1 dL_firstMissed_8 k_L_36 ?_
    refine x_lret dL_firstMissed_11 rfl ?_
    exact q_eq (lw_1 h1) (hq _ ⟨RX_mono hR9 (by omega), Fr_trans h.2 hF⟩)

abbrev hh_leastLimit : List (Nat × Nat × Nat × Nat) := [(0, 6, 7, 15)]
theorem o_L_leastLimit : mOkH M_L_leastLimit hh_leastLimit 2 := ⟨tl 999 (by decide +kernel) (by decide +kernel), tl 22 (by decide +kernel) (by decide +kernel), ⟨by decide +kernel, by decide +kernel⟩, by decide +kernel⟩
theorem s_L_leastLimit : Cond.static yL_leastLimit ∈ TT := tl 998 (by decide +kernel) (by decide +kernel)
theorem l_leastLimit {G : GT} {C : AH} {Q : QT} {C0 : AH} {sa va : Nat → Nat} {x T n : Nat} {S : Nat → Nat} {ρ : Rw} {L : List Rw} {K : Nat → Option Rw} {m : Int32} (hN : GN G) (hO : GO G) (hX : GX G sa va) (hT : T ≤ 40000) (h : RF T C0 C x (S, n, ρ, L, K)) (hq : ∀ C' : AH, RF (T) C0 C' x (aLeast (S, n, ρ, L, K) m).2.2 → Q (some (.long (lw jA 0 0 (aLeast (S, n, ρ, L, K) m)))) C') : MtH G M_L_leastLimit hh_leastLimit [.ref x, .int m] C Q := by
  refine MtH_of (by decide) (Nat.le_of_ble_eq_true rfl) ?_
  intro p9 l9 e9 R9 s9 m9 args9 below9 meth9 c9 Qf9 F S9 E9 ht
  have kx := RX_K h.1
  refine f_aload_n F dL_leastLimit_0 rfl ?_
  refine f_iload_n F dL_leastLimit_1 rfl ?_
  refine f_callX (As := [_]) 6 S9 E9 ht hO dL_leastLimit_2 o_X4_leastLimit v_X4_leastLimit l_L_76 ⟨by decide, by decide⟩ kx ⟨by decide, by decide⟩ rfl ⟨by decide, by decide⟩ rfl rfl (Nat.le_of_ble_eq_true rfl) (t_leastLimit hO hX hT h.1 (fun h0 C9 hR9 hF => ?_) (fun h1 C9 hR9 hF => ⟨7, ⟨[], _, _, _, rfl, (fun z hz => by cases hz), by decide, by decide, cl_L_15, ca_IAE, rfl⟩, fun q => ?_⟩))
  · dsimp only [Option.toList, List.cons_append, List.nil_append]
    refine x_i2l dL_leastLimit_5 ?_
    refine x_lret dL_leastLimit_6 rfl ?_
    exact q_eq (lw_0 h0) (hq _ ⟨hR9, Fr_trans h.2 hF⟩)
  · refine x_astore_n dL_leastLimit_7 (by decide) ?_
    refine x_ldc2 hO.1 dL_leastLimit_8 k_L_17 ?_
    refine x_lret dL_leastLimit_11 rfl ?_
    exact q_eq (lw_1 h1) (hq _ ⟨RX_mono hR9 (by omega), Fr_trans h.2 hF⟩)

abbrev hh_bestNight : List (Nat × Nat × Nat × Nat) := [(0, 6, 7, 15)]
theorem o_L_bestNight : mOkH M_L_bestNight hh_bestNight 2 := ⟨tl 1010 (by decide +kernel) (by decide +kernel), tl 22 (by decide +kernel) (by decide +kernel), ⟨by decide +kernel, by decide +kernel⟩, by decide +kernel⟩
theorem s_L_bestNight : Cond.static yL_bestNight ∈ TT := tl 1009 (by decide +kernel) (by decide +kernel)
theorem l_bestNight {G : GT} {C : AH} {Q : QT} {C0 : AH} {sa va : Nat → Nat} {x T n : Nat} {S : Nat → Nat} {ρ : Rw} {L : List Rw} {K : Nat → Option Rw} {m : Int32} (hN : GN G) (hO : GO G) (hX : GX G sa va) (hT : T ≤ 40000) (h : RF T C0 C x (S, n, ρ, L, K)) (hq : ∀ C' : AH, RF (T) C0 C' x (aBest (S, n, ρ, L, K) m).2.2 → Q (some (.long (lw jA 0 0 (aBest (S, n, ρ, L, K) m)))) C') : MtH G M_L_bestNight hh_bestNight [.ref x, .int m] C Q := by
  refine MtH_of (by decide) (Nat.le_of_ble_eq_true rfl) ?_
  intro p9 l9 e9 R9 s9 m9 args9 below9 meth9 c9 Qf9 F S9 E9 ht
  have kx := RX_K h.1
  refine f_aload_n F dL_bestNight_0 rfl ?_
  refine f_iload_n F dL_bestNight_1 rfl ?_
  refine f_callX (As := [_]) 6 S9 E9 ht hO dL_bestNight_2 o_X4_bestNight v_X4_bestNight l_L_79 ⟨by decide, by decide⟩ kx ⟨by decide, by decide⟩ rfl ⟨by decide, by decide⟩ rfl rfl (Nat.le_of_ble_eq_true rfl) (t_bestNight hO hX hT h.1 (fun h0 C9 hR9 hF => ?_) (fun h1 C9 hR9 hF => ⟨7, ⟨[], _, _, _, rfl, (fun z hz => by cases hz), by decide, by decide, cl_L_15, ca_IAE, rfl⟩, fun q => ?_⟩))
  · dsimp only [Option.toList, List.cons_append, List.nil_append]
    refine x_i2l dL_bestNight_5 ?_
    refine x_lret dL_bestNight_6 rfl ?_
    exact q_eq (lw_0 h0) (hq _ ⟨hR9, Fr_trans h.2 hF⟩)
  · refine x_astore_n dL_bestNight_7 (by decide) ?_
    refine x_ldc2 hO.1 dL_bestNight_8 k_L_17 ?_
    refine x_lret dL_bestNight_11 rfl ?_
    exact q_eq (lw_1 h1) (hq _ ⟨RX_mono hR9 (by omega), Fr_trans h.2 hF⟩)

abbrev hh_ifPlugged : List (Nat × Nat × Nat × Nat) := [(0, 7, 8, 15), (0, 7, 13, 19)]
theorem o_L_ifPlugged : mOkH M_L_ifPlugged hh_ifPlugged 3 := ⟨tl 935 (by decide +kernel) (by decide +kernel), tl 22 (by decide +kernel) (by decide +kernel), ⟨by decide +kernel, by decide +kernel⟩, by decide +kernel⟩
theorem s_L_ifPlugged : Cond.static yL_ifPlugged ∈ TT := tl 934 (by decide +kernel) (by decide +kernel)
theorem l_ifPlugged {G : GT} {C : AH} {Q : QT} {C0 : AH} {sa va : Nat → Nat} {x T n : Nat} {S : Nat → Nat} {ρ : Rw} {L : List Rw} {K : Nat → Option Rw} {p m : Int32} (hN : GN G) (hO : GO G) (hX : GX G sa va) (hT : T ≤ 40000) (h : RF T C0 C x (S, n, ρ, L, K)) (hq : ∀ C' : AH, RF (T) C0 C' x (aIfP (S, n, ρ, L, K) p m).2.2 → Q (some (.long (lw jA jS 0 (aIfP (S, n, ρ, L, K) p m)))) C') : MtH G M_L_ifPlugged hh_ifPlugged [.ref x, .int p, .int m] C Q := by
  refine MtH_of (by decide) (Nat.le_of_ble_eq_true rfl) ?_
  intro p9 l9 e9 R9 s9 m9 args9 below9 meth9 c9 Qf9 F S9 E9 ht
  have kx := RX_K h.1
  refine f_aload_n F dL_ifPlugged_0 rfl ?_
  refine f_iload_n F dL_ifPlugged_1 rfl ?_
  refine f_iload_n F dL_ifPlugged_2 rfl ?_
  refine f_callX (As := [_, _]) 6 S9 E9 ht hO dL_ifPlugged_3 o_X4_ifPlugged v_X4_ifPlugged l_L_82 ⟨by decide, by decide⟩ kx ⟨by decide, by decide⟩ rfl ⟨by decide, by decide⟩ rfl rfl (Nat.le_of_ble_eq_true rfl) (t_ifPlugged hO hX hT h.1 (fun h0 C9 hR9 hF => ?_) (fun h1 C9 hR9 hF => ⟨8, ⟨[], _, _, _, rfl, (fun z hz => by cases hz), by decide, by decide, cl_L_15, ca_IAE, rfl⟩, fun q => ?_⟩) (fun h2 C9 hR9 hF => ⟨13, ⟨[_], _, _, _, rfl, (fun z hz => by rw [List.mem_singleton.mp hz]; exact Or.inr ⟨by decide, _, cl_L_15, hN.2.2⟩), by decide, by decide, cl_L_19, ca_ISE, rfl⟩, fun q => ?_⟩))
  · dsimp only [Option.toList, List.cons_append, List.nil_append]
    refine x_i2l dL_ifPlugged_6 ?_
    refine x_lret dL_ifPlugged_7 rfl ?_
    exact q_eq (lw_0 h0) (hq _ ⟨hR9, Fr_trans h.2 hF⟩)
  · refine x_astore_n dL_ifPlugged_8 (by decide) ?_
    refine x_ldc2 hO.1 dL_ifPlugged_9 k_L_17 ?_
    refine x_lret dL_ifPlugged_12 rfl ?_
    exact q_eq (lw_1 h1) (hq _ ⟨RX_mono hR9 (by omega), Fr_trans h.2 hF⟩)
  · refine x_astore_n dL_ifPlugged_13 (by decide) ?_
    refine x_ldc2 hO.1 dL_ifPlugged_14 k_L_21 ?_
    refine x_lret dL_ifPlugged_17 rfl ?_
    exact q_eq (lw_2 h2) (hq _ ⟨RX_mono hR9 (by omega), Fr_trans h.2 hF⟩)

abbrev hh_script : List (Nat × Nat × Nat × Nat) := [(0, 7, 8, 15)]
theorem o_L_script : mOkH M_L_script hh_script 3 := ⟨tl 1021 (by decide +kernel) (by decide +kernel), tl 22 (by decide +kernel) (by decide +kernel), ⟨by decide +kernel, by decide +kernel⟩, by decide +kernel⟩
theorem s_L_script : Cond.static yL_script ∈ TT := tl 1020 (by decide +kernel) (by decide +kernel)
theorem l_script {G : GT} {C : AH} {Q : QT} {C0 : AH} {sa va : Nat → Nat} {x T n : Nat} {S : Nat → Nat} {ρ : Rw} {L : List Rw} {K : Nat → Option Rw} {w : Int32} {v : Int64} (hN : GN G) (hO : GO G) (hX : GX G sa va) (hT : T ≤ 40000) (h : RF T C0 C x (S, n, ρ, L, K)) (hq : ∀ C' : AH, RF (T) C0 C' x (aScript (S, n, ρ, L, K) w v).2.2 → Q (some (.long (lw jA 0 0 (aScript (S, n, ρ, L, K) w v)))) C') : MtH G M_L_script hh_script [.ref x, .int w, .long v] C Q := by
  refine MtH_of (by decide) (Nat.le_of_ble_eq_true rfl) ?_
  intro p9 l9 e9 R9 s9 m9 args9 below9 meth9 c9 Qf9 F S9 E9 ht
  have kx := RX_K h.1
  refine f_aload_n F dL_script_0 rfl ?_
  refine f_iload_n F dL_script_1 rfl ?_
  refine f_lload_n F dL_script_2 rfl ?_
  refine f_callX (As := [_, _]) 6 S9 E9 ht hO dL_script_3 o_X4_runScript v_X4_runScript l_L_85 ⟨by decide, by decide⟩ kx ⟨by decide, by decide⟩ rfl ⟨by decide, by decide⟩ rfl rfl (Nat.le_of_ble_eq_true rfl) (t_runScript hO hX hT h.1 (fun h0 C9 hR9 hF => ?_) (fun h1 C9 hR9 hF => ⟨8, ⟨[], _, _, _, rfl, (fun z hz => by cases hz), by decide, by decide, cl_L_15, ca_IAE, rfl⟩, fun q => ?_⟩))
  · dsimp only [Option.toList, List.cons_append, List.nil_append]
    refine x_i2l dL_script_6 ?_
    refine x_lret dL_script_7 rfl ?_
    exact q_eq (lw_0 h0) (hq _ ⟨hR9, Fr_trans h.2 hF⟩)
  · refine x_astore dL_script_8 (by decide) ?_
    refine x_ldc2 hO.1 dL_script_10 k_L_17 ?_
    refine x_lret dL_script_13 rfl ?_
    exact q_eq (lw_1 h1) (hq _ ⟨RX_mono hR9 (by omega), Fr_trans h.2 hF⟩)

abbrev hh_simulate : List (Nat × Nat × Nat × Nat) := [(0, 7, 8, 15)]
theorem o_L_simulate : mOkH M_L_simulate hh_simulate 3 := ⟨tl 1057 (by decide +kernel) (by decide +kernel), tl 22 (by decide +kernel) (by decide +kernel), ⟨by decide +kernel, by decide +kernel⟩, by decide +kernel⟩
theorem s_L_simulate : Cond.static yL_simulate ∈ TT := tl 1056 (by decide +kernel) (by decide +kernel)
theorem l_simulate {G : GT} {C : AH} {Q : QT} {C0 : AH} {sa va : Nat → Nat} {x T n : Nat} {S : Nat → Nat} {ρ : Rw} {L : List Rw} {K : Nat → Option Rw} {v : Int64} {w : Int32} (hN : GN G) (hO : GO G) (hX : GX G sa va) (hT : T ≤ 40000) (h : RF T C0 C x (S, n, ρ, L, K)) (hq : ∀ C' : AH, RF (T) C0 C' x (aSim (S, n, ρ, L, K) v w).2.2 → Q (some (.long (lw jA 0 0 (aSim (S, n, ρ, L, K) v w)))) C') : MtH G M_L_simulate hh_simulate [.ref x, .long v, .int w] C Q := by
  refine MtH_of (by decide) (Nat.le_of_ble_eq_true rfl) ?_
  intro p9 l9 e9 R9 s9 m9 args9 below9 meth9 c9 Qf9 F S9 E9 ht
  have kx := RX_K h.1
  refine f_aload_n F dL_simulate_0 rfl ?_
  refine f_lload_n F dL_simulate_1 rfl ?_
  refine f_iload_n F dL_simulate_2 rfl ?_
  refine f_callX (As := [_, _]) 6 S9 E9 ht hO dL_simulate_3 o_X4_simulate v_X4_simulate l_L_89 ⟨by decide, by decide⟩ kx ⟨by decide, by decide⟩ rfl ⟨by decide, by decide⟩ rfl rfl (Nat.le_of_ble_eq_true rfl) (t_simulate hO hX hT h.1 (fun h0 C9 hR9 hF => ?_) (fun h1 C9 hR9 hF => ⟨8, ⟨[], _, _, _, rfl, (fun z hz => by cases hz), by decide, by decide, cl_L_15, ca_IAE, rfl⟩, fun q => ?_⟩))
  · dsimp only [Option.toList, List.cons_append, List.nil_append]
    refine x_i2l dL_simulate_6 ?_
    refine x_lret dL_simulate_7 rfl ?_
    exact q_eq (lw_0 h0) (hq _ ⟨hR9, Fr_trans h.2 hF⟩)
  · refine x_astore dL_simulate_8 (by decide) ?_
    refine x_ldc2 hO.1 dL_simulate_10 k_L_17 ?_
    refine x_lret dL_simulate_13 rfl ?_
    exact q_eq (lw_1 h1) (hq _ ⟨RX_mono hR9 (by omega), Fr_trans h.2 hF⟩)

abbrev hh_save : List (Nat × Nat × Nat × Nat) := [(0, 6, 7, 34)]
theorem o_L_save : mOkH M_L_save hh_save 2 := ⟨tl 546 (by decide +kernel) (by decide +kernel), tl 22 (by decide +kernel) (by decide +kernel), ⟨by decide +kernel, by decide +kernel⟩, by decide +kernel⟩
theorem s_L_save : Cond.static yL_save ∈ TT := tl 545 (by decide +kernel) (by decide +kernel)
theorem l_save {G : GT} {C : AH} {Q : QT} {C0 : AH} {sa va : Nat → Nat} {x T n : Nat} {S : Nat → Nat} {ρ : Rw} {L : List Rw} {K : Nat → Option Rw} {v : Int32} (hN : GN G) (hO : GO G) (hX : GX G sa va) (hT : T ≤ 40000) (h : RF T C0 C x (S, n, ρ, L, K)) (hq : ∀ C' : AH, RF (T) C0 C' x (aSave (S, n, ρ, L, K) v).2.2 → Q (some (.long (lw jI 0 0 (aSave (S, n, ρ, L, K) v)))) C') : MtH G M_L_save hh_save [.ref x, .int v] C Q := by
  refine MtH_of (by decide) (Nat.le_of_ble_eq_true rfl) ?_
  intro p9 l9 e9 R9 s9 m9 args9 below9 meth9 c9 Qf9 F S9 E9 ht
  have kx := RX_K h.1
  refine f_aload_n F dL_save_0 rfl ?_
  refine f_iload_n F dL_save_1 rfl ?_
  refine f_callX (As := [_]) 6 S9 E9 ht hO dL_save_2 o_X4_save v_X4_save l_L_93 ⟨by decide, by decide⟩ kx ⟨by decide, by decide⟩ rfl ⟨by decide, by decide⟩ rfl rfl (Nat.le_of_ble_eq_true rfl) (t_save hO hX hT h.1 (fun h0 C9 hR9 hF => ?_) (fun h1 C9 hR9 hF => ⟨7, ⟨[], _, _, _, rfl, (fun z hz => by cases hz), by decide, by decide, cl_L_34, ca_IOE, rfl⟩, fun q => ?_⟩))
  · dsimp only [Option.toList, List.cons_append, List.nil_append]
    refine x_i2l dL_save_5 ?_
    refine x_lret dL_save_6 rfl ?_
    exact q_eq (lw_0 h0) (hq _ ⟨hR9, Fr_trans h.2 hF⟩)
  · refine x_astore_n dL_save_7 (by decide) ?_
    refine x_ldc2 hO.1 dL_save_8 k_L_36 ?_
    refine x_lret dL_save_11 rfl ?_
    exact q_eq (lw_1 h1) (hq _ ⟨RX_mono hR9 (by omega), Fr_trans h.2 hF⟩)

abbrev hh_restore : List (Nat × Nat × Nat × Nat) := [(0, 6, 7, 34), (0, 6, 12, 19)]
theorem o_L_restore : mOkH M_L_restore hh_restore 2 := ⟨tl 582 (by decide +kernel) (by decide +kernel), tl 22 (by decide +kernel) (by decide +kernel), ⟨by decide +kernel, by decide +kernel⟩, by decide +kernel⟩
theorem s_L_restore : Cond.static yL_restore ∈ TT := tl 581 (by decide +kernel) (by decide +kernel)
theorem l_restore {G : GT} {C : AH} {Q : QT} {C0 : AH} {sa va : Nat → Nat} {x T n : Nat} {S : Nat → Nat} {ρ : Rw} {L : List Rw} {K : Nat → Option Rw} {v : Int32} (hN : GN G) (hO : GO G) (hX : GX G sa va) (hT : T ≤ 40000) (h : RF T C0 C x (S, n, ρ, L, K)) (hq : ∀ C' : AH, RF (T) C0 C' x (aRestore (S, n, ρ, L, K) v).2.2 → Q (some (.long (lw jI jS 0 (aRestore (S, n, ρ, L, K) v)))) C') : MtH G M_L_restore hh_restore [.ref x, .int v] C Q := by
  refine MtH_of (by decide) (Nat.le_of_ble_eq_true rfl) ?_
  intro p9 l9 e9 R9 s9 m9 args9 below9 meth9 c9 Qf9 F S9 E9 ht
  have kx := RX_K h.1
  refine f_aload_n F dL_restore_0 rfl ?_
  refine f_iload_n F dL_restore_1 rfl ?_
  refine f_callX (As := [_]) 6 S9 E9 ht hO dL_restore_2 o_X4_restore v_X4_restore l_L_96 ⟨by decide, by decide⟩ kx ⟨by decide, by decide⟩ rfl ⟨by decide, by decide⟩ rfl rfl (Nat.le_of_ble_eq_true rfl) (t_restore hO hX hT h.1 (fun h0 C9 hR9 hF => ?_) (fun h1 C9 hR9 hF => ⟨7, ⟨[], _, _, _, rfl, (fun z hz => by cases hz), by decide, by decide, cl_L_34, ca_IOE, rfl⟩, fun q => ?_⟩) (fun h2 C9 hR9 hF => ⟨12, ⟨[_], _, _, _, rfl, (fun z hz => by rw [List.mem_singleton.mp hz]; exact Or.inr ⟨by decide, _, cl_L_34, hN.2.1⟩), by decide, by decide, cl_L_19, ca_ISE, rfl⟩, fun q => ?_⟩))
  · dsimp only [Option.toList, List.cons_append, List.nil_append]
    refine x_i2l dL_restore_5 ?_
    refine x_lret dL_restore_6 rfl ?_
    exact q_eq (lw_0 h0) (hq _ ⟨hR9, Fr_trans h.2 hF⟩)
  · refine x_astore_n dL_restore_7 (by decide) ?_
    refine x_ldc2 hO.1 dL_restore_8 k_L_36 ?_
    refine x_lret dL_restore_11 rfl ?_
    exact q_eq (lw_1 h1) (hq _ ⟨RX_mono hR9 (by omega), Fr_trans h.2 hF⟩)
  · refine x_astore_n dL_restore_12 (by decide) ?_
    refine x_ldc2 hO.1 dL_restore_13 k_L_21 ?_
    refine x_lret dL_restore_16 rfl ?_
    exact q_eq (lw_2 h2) (hq _ ⟨RX_mono hR9 (by omega), Fr_trans h.2 hF⟩)

