/-! WHAT THE WHOLE IS: text and its length, now, remembered, kept *)-/
abbrev St : Type := (Nat → Nat) × Nat × Rw × List Rw × (Nat → Option Rw)
/-- number of what is thrown (0: nothing), value, what then is *)-/
abbrev An : Type := Nat × Int32 × St
def OkS (T : Nat) (s : St) : Prop := Ok T s.2.2.1 ∧ (∀ σ, σ ∈ s.2.2.2.1 → Ok T σ) ∧ (∀ i σ, s.2.2.2.2 i = some σ → Ok T σ) ∧ s.2.1 ≤ 120 ∧ (∀ i, i < s.2.1 → s.1 i < 256) ∧ s.2.2.2.1.length ≤ 14
def RXs (C : AH) (x : Nat) (π : Nat → Nat) : Prop :=
  gK C x = 6 ∧ (gR C x 0 = some (x + 1) ∧ gR C x 1 = some (x + 4) ∧ gR C x 2 = some (x + 17) ∧ gR C x 3 = some (x + 201) ∧ gR C x 4 = some (x + 202) ∧ gR C x 5 = some (x + 203) ∧ gR C x 6 = some (x + 216)) ∧
  TxS C (x + 1) ∧ SkD C (x + 4) ∧ HiS C (x + 17) π ∧ (gK C (x + 201) = 26 ∧ gN C (x + 201) = 2 ∧ ∀ i, i < 2 → gR C (x + 201) i = some (x + 229 + 13 * i)) ∧ (gK C (x + 202) = 21 ∧ gN C (x + 202) = 2) ∧ SkD C (x + 203) ∧ SkD C (x + 216) ∧ (∀ i, i < 2 → SkD C (x + 229 + 13 * i)) ∧ x + 255 ≤ gz C
def SlV (f : Nat → Nat → Int32) (x : Nat) (K : Nat → Option Rw) : Prop := ∀ i, i < 2 → (K i = none → f (x + 202) i = 0) ∧ ∀ σ, K i = some σ → f (x + 202) i = 1 ∧ Wf σ ∧ VaD f (x + 229 + 13 * i) σ
def RXv (f : Nat → Nat → Int32) (x : Nat) (π : Nat → Nat) (s : St) : Prop := TxV f (x + 1) s.1 s.2.1 ∧ VaD f (x + 4) s.2.2.1 ∧ HiV f (x + 17) π s.2.2.2.1 ∧ SlV f x s.2.2.2.2
def RX (T : Nat) (C : AH) (x : Nat) (s : St) : Prop := OkS T s ∧ ∃ π, RXs C x π ∧ RXv (gI C) x π s
/-- cells that lay there, outside x .. x + w, are the same -/
def Fr (C C' : AH) (x w : Nat) : Prop := gz C ≤ gz C' ∧ ∀ a, a < gz C → (a < x ∨ x + w ≤ a) → gK C' a = gK C a ∧ gN C' a = gN C a ∧ (∀ j, gI C' a j = gI C a j) ∧ (∀ j, gR C' a j = gR C a j) ∧ ∀ j, gJ C' a j = gJ C a j
theorem Fr_wI {C : AH} {f : Nat → Nat → Int32} {x w : Nat} (h : ∀ a, (a < x ∨ x + w ≤ a) → f a = gI C a) : Fr C (wI C f) x w :=
  ⟨Nat.le_refl _, fun a _ h2 => ⟨rfl, rfl, fun j => congrFun (h a h2) j, fun _ => rfl, fun _ => rfl⟩⟩
theorem Fr_refl {C : AH} {x w : Nat} : Fr C C x w := ⟨Nat.le_refl _, fun _ _ _ => ⟨rfl, rfl, fun _ => rfl, fun _ => rfl, fun _ => rfl⟩⟩
theorem Fr_wZ {C : AH} {x w z : Nat} (h : gz C ≤ z) : Fr C (wZ C z) x w := ⟨h, fun _ _ _ => ⟨rfl, rfl, fun _ => rfl, fun _ => rfl, fun _ => rfl⟩⟩
theorem TxV_in {g f : Nat → Nat → Int32} {t n : Nat} {S : Nat → Nat} (h : TxV g t S n) (h0 : f t 1 = g t 1) (h1 : f (t + 1) = g (t + 1)) : TxV f t S n :=
  ⟨h0.trans h.1, h.2.1, fun i hi => by rw [h1]; exact h.2.2 i hi⟩
theorem HiV_in {C : AH} {g f : Nat → Nat → Int32} {h : Nat} {π : Nat → Nat} {L : List Rw} (hS : HiS C h π) (hV : HiV g h π L) (hs : ∀ a, h ≤ a → a < h + 184 → f a = g a) : HiV f h π L := by
  obtain ⟨a1, a2, a3⟩ := hV
  refine ⟨by rw [hs h (by omega) (by omega)]; exact a1, a2, fun i ρ hi => ⟨(a3 i ρ hi).1, VaD_in (a3 i ρ hi).1 (a3 i ρ hi).2 fun q h1 h2 => ?_⟩⟩
  have hi2 := (List.getElem?_eq_some_iff.mp hi).1
  have := (hS.2.2.2.2.1 i (by omega)).2
  exact hs q (by omega) (by omega)
theorem SlV_in {g f : Nat → Nat → Int32} {x : Nat} {K : Nat → Option Rw} (h : SlV g x K) (h0 : f (x + 202) = g (x + 202)) (h1 : ∀ a, x + 229 ≤ a → a < x + 255 → f a = g a) : SlV f x K := fun i hi => by
  refine ⟨fun q => by rw [h0]; exact (h i hi).1 q, fun σ q => ?_⟩
  obtain ⟨a, b, c⟩ := (h i hi).2 σ q
  exact ⟨by rw [h0]; exact a, b, VaD_in b c fun q h2 h3 => h1 q (by omega) (by omega)⟩
theorem OkS_mono {T U : Nat} {s : St} (h : OkS T s) (hU : T ≤ U) : OkS U s :=
  ⟨Ok_mono h.1 hU, fun σ hσ => Ok_mono (h.2.1 σ hσ) hU, fun i σ hσ => Ok_mono (h.2.2.1 i σ hσ) hU, h.2.2.2⟩
theorem RX_mono {T U : Nat} {C : AH} {x : Nat} {s : St} (h : RX T C x s) (hU : T ≤ U) : RX U C x s := ⟨OkS_mono h.1 hU, h.2⟩
theorem RXs_wI {C : AH} {f : Nat → Nat → Int32} {x : Nat} {π : Nat → Nat} (h : RXs C x π) : RXs (wI C f) x π := h
theorem RXs_wZ {C : AH} {z x : Nat} {π : Nat → Nat} (h : RXs C x π) (hz : gz C ≤ z) : RXs (wZ C z) x π :=
  ⟨h.1, h.2.1, h.2.2.1, h.2.2.2.1, h.2.2.2.2.1, h.2.2.2.2.2.1, h.2.2.2.2.2.2.1, h.2.2.2.2.2.2.2.1, h.2.2.2.2.2.2.2.2.1, h.2.2.2.2.2.2.2.2.2.1, Nat.le_trans h.2.2.2.2.2.2.2.2.2.2 hz⟩
theorem RX_wZ {T : Nat} {C : AH} {z x : Nat} {s : St} (h : RX T C x s) (hz : gz C ≤ z) : RX T (wZ C z) x s := by
  obtain ⟨h1, π, h2, h3⟩ := h
  exact ⟨h1, π, RXs_wZ h2 hz, h3⟩
/-- the constructor's end -/
def st0 : St := (fun _ => 0, 0, new0, [], fun _ => none)
theorem RX_new {C : AH} {x : Nat} (hz : gz C = x + 255) (hK : gK C x = 6) (j1 : J1 C x) (j2 : J2 C x) (j3 : J3 C x) (j4 : J4 C x) (j5 : J5 C x) (j6 : J6 C x) (j7 : J7 C x) (j8 : J8 C x) (j9 : J9 C x) : RX 0 C x st0 := by
  refine ⟨⟨Ok_new, fun σ h => absurd h (by simp [st0]), fun i σ h => absurd h (by simp [st0]), by decide, fun i hi => absurd hi (Nat.not_lt_zero i), by decide⟩, fun i => i, ⟨hK, ⟨j1.1, j2.1, j3.1, j4.1, j5.1, j6.1, j7.1⟩, j1.2.1, j2.2.1, j3.2.1, ⟨j4.2.1, j4.2.2, fun i hi => ?_⟩, ⟨j5.2.1, j5.2.2.1⟩, j6.2, j7.2, fun i hi => ?_, by omega⟩, j1.2.2, j2.2.2, j3.2.2, fun i hi => ⟨fun _ => j5.2.2.2 i, fun σ h => absurd h (by simp [st0])⟩⟩
  · match i, hi with
    | 0, _ => exact j8.1
    | 1, _ => exact j9.1
  · match i, hi with
    | 0, _ => exact j8.2
    | 1, _ => exact j9.2

def aAppend (s : St) (c : Int32) : An := if nI 0 ≤ c ∧ c ≤ nI 255 then (if s.2.1 = 120 then (2, 0, s) else (0, nI (s.2.1 + 1), (uN s.1 s.2.1 c.toNatClampNeg, s.2.1 + 1, s.2.2))) else (1, 0, s)
theorem i2c_256 {k : Nat} (h : k < 256) : ((nI k).toUInt32 % 65536).toInt32 = nI k := by
  have q : ∀ c : Fin 256, ((nI c.val).toUInt32 % 65536).toInt32 = nI c.val := by decide +kernel
  exact q ⟨k, h⟩
theorem t_append {G : GT} {C : AH} {Q : QT} {X : XT} {sa va : Nat → Nat} {x T : Nat} {s : St} {c : Int32} (hO : GO G) (hX : GX G sa va) (hR : RX T C x s) (hq : (aAppend s c).1 = 0 → ∀ C' : AH, RX (T) C' x (aAppend s c).2.2 → Fr C C' x 255 → Q (some (.int (aAppend s c).2.1)) C') (hx1 : (aAppend s c).1 = 1 → ∀ C' : AH, RX (T) C' x (aAppend s c).2.2 → Fr C C' x 255 → X "java/lang/IllegalArgumentException" C') (hx2 : (aAppend s c).1 = 2 → ∀ C' : AH, RX (T) C' x (aAppend s c).2.2 → Fr C C' x 255 → X "java/lang/IllegalStateException" C') : Mt G M_X4_append [.ref x, .int c] C Q X := by
  refine Mt_of (by decide) (Nat.le_of_ble_eq_true rfl) ?_
  obtain ⟨hk, π, hs, hv⟩ := id hR
  obtain ⟨hK, ⟨g0, g1, g2, g3, g4, g5, g6⟩, hTx, hNow, hHi, ⟨ks, ns, es⟩, ⟨kf, nf⟩, hTr, hPr, hSl, hgz⟩ := id hs
  have kTx := hTx.1
  have kNow := hNow.1
  have kHi := hHi.1
  have kTr := hTr.1
  have kPr := hPr.1
  obtain ⟨vT, vN, vH, vS⟩ := id hv
  obtain ⟨ok1, ok2, ok3, ok4, ok5, ok6⟩ := id hk
  refine x_iload_n dX4_append_0 rfl ?_
  refine x_iconst (v := nI 0) dX4_append_1 (by decide) ?_
  refine x_sipush (v := nI 255) dX4_append_2 (by decide) ?_
  refine x_callS (As := [_, _, _]) hO dX4_append_5 o_X4_requireWithin s_X4_requireWithin l_X4_44 ⟨by decide, by decide⟩ ⟨by decide, by decide⟩ rfl rfl (Nat.le_of_ble_eq_true rfl) (s_requireWithin hO hX (fun h5 => ?_) (fun h5 => ?_))
  · dsimp only [Option.toList, List.cons_append, List.nil_append]
    obtain ⟨k, hk0, hk9, rfl⟩ := (rng (by decide) (by decide)).mp h5
    have hk9 : k < 256 := by omega
    have eA : aAppend s (nI k) = (if s.2.1 = 120 then (2, 0, s) else (0, nI (s.2.1 + 1), (uN s.1 s.2.1 k, s.2.1 + 1, s.2.2))) := by
      unfold aAppend
      rw [if_pos h5, nI_clamp (by omega)]
    refine x_aload_n dX4_append_8 rfl ?_
    refine x_get 6 hO dX4_append_9 f_X4_12 (by first | (simp only [gK_wI]; assumption) | assumption) ⟨by decide, by decide⟩ (v := .ref (x + 1)) (congrArg va_rf g0) ?_
    refine x_callV (As := []) 5 hO dX4_append_12 o_X3_isFull v_X3_isFull l_X4_48 ⟨by decide, by decide⟩ (by first | (simp only [gK_wI]; assumption) | assumption) ⟨by decide, by decide⟩ rfl ⟨by decide, by decide⟩ rfl rfl (Nat.le_of_ble_eq_true rfl) (s_isFull hO hTx vT (fun r12 hr12 => ?_))
    dsimp only [Option.toList, List.cons_append, List.nil_append]
    refine x_if_eq (tgt := 28) dX4_append_15 (by decide) (fun c15 => ?_) (fun c15 => ?_)
    · have p12 := (ite01 hr12).1 c15
      refine x_aload_n dX4_append_28 rfl ?_
      refine x_get 6 hO dX4_append_29 f_X4_12 (by first | (simp only [gK_wI]; assumption) | assumption) ⟨by decide, by decide⟩ (v := .ref (x + 1)) (congrArg va_rf g0) ?_
      refine x_iload_n dX4_append_32 rfl ?_
      refine x_i2c dX4_append_33 ?_
      rw [show ((nI k).toUInt32 % 65536).toInt32 = nI k from i2c_256 hk9]
      refine x_callV (As := [_]) 5 hO dX4_append_34 o_X3_put v_X3_put l_X4_59 ⟨by decide, by decide⟩ (by first | (simp only [gK_wI]; assumption) | assumption) ⟨by decide, by decide⟩ rfl ⟨by decide, by decide⟩ rfl rfl (Nat.le_of_ble_eq_true rfl) (s_put hO hTx vT (by omega) hk9 (fun f p1 p2 p3 => ?_))
      dsimp only [Option.toList, List.cons_append, List.nil_append]
      refine x_iret dX4_append_37 rfl rfl ?_
      rw [eA, if_neg p12] at hq
      refine hq rfl _ ⟨⟨ok1, ok2, ok3, by show s.2.1 + 1 ≤ 120; omega, fun i hi => ?_, ok6⟩, π, hs, p1, ?_, ?_, ?_⟩ (Fr_wI fun a ha => p3 a (by omega) (by omega))
      · by_cases e : i = s.2.1
        · subst e
          show uN s.1 s.2.1 k s.2.1 < 256
          rw [uN_s]
          exact hk9
        · show uN s.1 s.2.1 k i < 256
          rw [uN_n e]
          exact ok5 i (by have : i < s.2.1 + 1 := hi; omega)
      · exact VaD_in ok1.1 vN fun a h1 h2 => p3 a (by omega) (by omega)
      · exact HiV_in hHi vH fun a h1 h2 => p3 a (by omega) (by omega)
      · exact SlV_in vS (p3 _ (by omega) (by omega)) fun a h1 h2 => p3 a (by omega) (by omega)
    · have p12 := (ite01 hr12).2 c15
      refine x_throwS (names := nmsX) hO hX.1 dX4_append_18 dX4_append_21 dX4_append_22 dX4_append_24 dX4_append_27 fit_56 nms_fit q_X4_52 ini_IllegalStateException (hX.2.1 9 _ _ _ rfl) g1_56 dcl g2_56 (dcl_ok hO) (gd_56 _) (Nat.le_of_ble_eq_true rfl) ⟨by decide, by decide⟩ ⟨by decide, by decide⟩ ?_
      rw [eA, if_pos p12] at hx2
      exact fun z hz => hx2 rfl _ (RX_wZ hR hz) (Fr_wZ hz)
  · have eA : aAppend s c = (1, 0, s) := if_neg h5
    rw [eA] at hx1
    exact fun z hz => hx1 rfl _ (RX_wZ hR hz) (Fr_wZ hz)

def aClear (s : St) : An := (0, nI s.2.1, (s.1, 0, s.2.2))
theorem t_clearText {G : GT} {C : AH} {Q : QT} {X : XT} {sa va : Nat → Nat} {x T : Nat} {s : St} (hO : GO G) (hX : GX G sa va) (hR : RX T C x s) (hq : (aClear s).1 = 0 → ∀ C' : AH, RX (T) C' x (aClear s).2.2 → Fr C C' x 255 → Q (some (.int (aClear s).2.1)) C') : Mt G M_X4_clearText [.ref x] C Q X := by
  refine Mt_of (by decide) (Nat.le_of_ble_eq_true rfl) ?_
  obtain ⟨hk, π, hs, hv⟩ := id hR
  obtain ⟨hK, ⟨g0, g1, g2, g3, g4, g5, g6⟩, hTx, hNow, hHi, ⟨ks, ns, es⟩, ⟨kf, nf⟩, hTr, hPr, hSl, hgz⟩ := id hs
  have kTx := hTx.1
  have kNow := hNow.1
  have kHi := hHi.1
  have kTr := hTr.1
  have kPr := hPr.1
  obtain ⟨vT, vN, vH, vS⟩ := id hv
  obtain ⟨ok1, ok2, ok3, ok4, ok5, ok6⟩ := id hk
  refine x_aload_n dX4_clearText_0 rfl ?_
  refine x_get 6 hO dX4_clearText_1 f_X4_12 (by first | (simp only [gK_wI]; assumption) | assumption) ⟨by decide, by decide⟩ (v := .ref (x + 1)) (congrArg va_rf g0) ?_
  refine x_callV (As := []) 5 hO dX4_clearText_4 o_X3_empty v_X3_empty l_X4_63 ⟨by decide, by decide⟩ (by first | (simp only [gK_wI]; assumption) | assumption) ⟨by decide, by decide⟩ rfl ⟨by decide, by decide⟩ rfl rfl (Nat.le_of_ble_eq_true rfl) (s_empty hO hTx vT (fun p1 => ?_))
  dsimp only [Option.toList, List.cons_append, List.nil_append]
  refine x_iret dX4_clearText_7 rfl rfl ?_
  have p3 : ∀ a, a ≠ x + 1 → up2 (gI C) (x + 1) 1 (nI 0) a = gI C a := fun a ha => funext fun j => up2_n (by omega)
  refine hq rfl _ ⟨⟨ok1, ok2, ok3, Nat.zero_le _, fun i hi => absurd hi (Nat.not_lt_zero i), ok6⟩, π, hs, p1, ?_, ?_, ?_⟩ (Fr_wI fun a ha => p3 a (by omega))
  · exact VaD_in ok1.1 vN fun a h1 h2 => p3 a (by omega)
  · exact HiV_in hHi vH fun a h1 h2 => p3 a (by omega)
  · exact SlV_in vS (p3 _ (by omega)) fun a h1 h2 => p3 a (by omega)
def aError (s : St) : An := (0, enc (pAll s.1 s.2.1 (s.2.1 + 1) 0), s)
theorem t_errorPosition {G : GT} {C : AH} {Q : QT} {X : XT} {sa va : Nat → Nat} {x T : Nat} {s : St} (hO : GO G) (hX : GX G sa va) (hR : RX T C x s) (hq : (aError s).1 = 0 → ∀ C' : AH, RX (T) C' x (aError s).2.2 → Fr C C' x 255 → Q (some (.int (aError s).2.1)) C') : Mt G M_X4_errorPosition [.ref x] C Q X := by
  refine Mt_of (by decide) (Nat.le_of_ble_eq_true rfl) ?_
  obtain ⟨hk, π, hs, hv⟩ := id hR
  obtain ⟨hK, ⟨g0, g1, g2, g3, g4, g5, g6⟩, hTx, hNow, hHi, ⟨ks, ns, es⟩, ⟨kf, nf⟩, hTr, hPr, hSl, hgz⟩ := id hs
  have kTx := hTx.1
  have kNow := hNow.1
  have kHi := hHi.1
  have kTr := hTr.1
  have kPr := hPr.1
  obtain ⟨vT, vN, vH, vS⟩ := id hv
  obtain ⟨ok1, ok2, ok3, ok4, ok5, ok6⟩ := id hk
  refine x_aload_n dX4_errorPosition_0 rfl ?_
  refine x_get 6 hO dX4_errorPosition_1 f_X4_12 (by first | (simp only [gK_wI]; assumption) | assumption) ⟨by decide, by decide⟩ (v := .ref (x + 1)) (congrArg va_rf g0) ?_
  refine x_callV (As := []) 5 hO dX4_errorPosition_4 o_X3_findError v_X3_findError l_X4_67 ⟨by decide, by decide⟩ (by first | (simp only [gK_wI]; assumption) | assumption) ⟨by decide, by decide⟩ rfl ⟨by decide, by decide⟩ rfl rfl (Nat.le_of_ble_eq_true rfl) (s_findError hO hTx vT hX (fun r f p1 p2 p3 => ?_))
  dsimp only [Option.toList, List.cons_append, List.nil_append]
  refine x_iret dX4_errorPosition_7 rfl rfl ?_
  rw [p1]
  refine hq rfl _ ⟨hk, π, hs, TxV_in vT (p2 1 (by omega) (by omega)) (p3 _ (by omega) (by omega)), ?_, ?_, ?_⟩ (Fr_wI fun a ha => p3 a (by omega) (by omega))
  · exact VaD_in ok1.1 vN fun a h1 h2 => p3 a (by omega) (by omega)
  · exact HiV_in hHi vH fun a h1 h2 => p3 a (by omega) (by omega)
  · exact SlV_in vS (p3 _ (by omega) (by omega)) fun a h1 h2 => p3 a (by omega) (by omega)

