/-! THE LAW: one call *)-/
abbrev M_law (nm : String) : MI := (⟨RL, nm, "([I)Z"⟩, cL_law, 7, ret, 15, 586, 718176, 6941576)
theorem lg_self {a : Int64} : lg_cmp a a = 0 := by
  unfold lg_cmp
  simp
theorem RM_L {T m x : Nat} {C C' : AH} {s : St} (h : RM T C m s) (hF : FrL C C' x) (hx : x + 255 ≤ m) (hz : m + 14 ≤ gz C) : RM T C' m s := by
  obtain ⟨hk, ⟨h0, ⟨g1, g6, g7, g8, g9, g10, g12, g13, g14, g15, g16, g17, g18⟩, k1, k2, k3, k4, k5, k6, k7, k8, k9, k10, k11, k12, k13, hmz⟩, hv⟩ := h
  have e : ∀ a, m ≤ a → a < m + 14 → gK C' a = gK C a ∧ gN C' a = gN C a ∧ (∀ j, gI C' a j = gI C a j) ∧ ∀ j, gR C' a j = gR C a j := fun a q1 q2 => hF.2 a (by omega) (by omega)
  have eK : ∀ a κ N, m ≤ a → a < m + 14 → AS C a κ N → AS C' a κ N := fun a κ N q1 q2 q => ⟨(e a q1 q2).1.trans q.1, (e a q1 q2).2.1.trans q.2⟩
  have eI : ∀ a, m ≤ a → a < m + 14 → gI C' a = gI C a := fun a q1 q2 => funext (e a q1 q2).2.2.1
  obtain ⟨x0, -, xI, xR⟩ := e m (Nat.le_refl _) (by omega)
  exact ⟨hk, ⟨x0.trans h0, ⟨(xR _).trans g1, (xR _).trans g6, (xR _).trans g7, (xR _).trans g8, (xR _).trans g9, (xR _).trans g10, (xR _).trans g12, (xR _).trans g13, (xR _).trans g14, (xR _).trans g15, (xR _).trans g16, (xR _).trans g17, (xR _).trans g18⟩, eK _ _ _ (by omega) (by omega) k1, eK _ _ _ (by omega) (by omega) k2, eK _ _ _ (by omega) (by omega) k3, eK _ _ _ (by omega) (by omega) k4, eK _ _ _ (by omega) (by omega) k5, eK _ _ _ (by omega) (by omega) k6, eK _ _ _ (by omega) (by omega) k7, eK _ _ _ (by omega) (by omega) k8, eK _ _ _ (by omega) (by omega) k9, eK _ _ _ (by omega) (by omega) k10, eK _ _ _ (by omega) (by omega) k11, eK _ _ _ (by omega) (by omega) k12, eK _ _ _ (by omega) (by omega) k13, by have := hF.1; omega⟩, RMv_to hv (xI 2) (xI 11) fun k hk => eI _ (by omega) (by omega)⟩
/-- the class's object at x, the reference's behind it, then out; both are s *)-/
def LwI (C : AH) (x T : Nat) (s : St) : Prop := RX T C x s ∧ RM T C (x + 255) s ∧ gK C (x + 269) = 24 ∧ gN C (x + 269) = 1 ∧ x + 270 ≤ gz C
theorem LwI_next {C C5 : AH} {x T U : Nat} {s s' : St} {f : Nat → Nat → Int32} (hI : LwI C x T s) (hR : RX U C5 x s') (hF : FrL C C5 x) (hM : RM U (wI C5 f) (x + 255) s') (hf : ∀ a, (a < x + 255 ∨ x + 255 + 14 ≤ a) → f a = gI C5 a) (hU : U ≤ T + 48) : LwI (wI C5 f) x (T + 48) s' := by
  obtain ⟨-, -, ko, no, hz⟩ := hI
  refine ⟨RX_mono (RX_A hR (fun q q1 q2 => ⟨rfl, rfl, fun j => congrFun (hf q (Or.inl q2)) j, fun _ => rfl, fun _ => rfl⟩) (Nat.le_refl _)) hU, RM_mono hM hU, (hF.2 _ (by omega) (by omega)).1.trans ko, (hF.2 _ (by omega) (by omega)).2.1.trans no, Nat.le_trans hz hF.1⟩
theorem ab_append {s : St} {c : Int32} : (aAppend s c).1 < 2147483648 := by
  unfold aAppend
  repeat' split
  all_goals exact Nat.le_of_ble_eq_true rfl
theorem ab_load {s : St}  : (aLoad s ).1 < 2147483648 := by
  unfold aLoad
  repeat' split
  all_goals exact Nat.le_of_ble_eq_true rfl
theorem ab_about {s : St} {w : Int32} : (aAbout s w).1 < 2147483648 := by
  unfold aAbout
  repeat' split
  all_goals exact Nat.le_of_ble_eq_true rfl
theorem ab_bus {s : St} {b : Int32} {w : Int32} : (aBus s b w).1 < 2147483648 := by
  unfold aBus
  repeat' split
  all_goals exact Nat.le_of_ble_eq_true rfl
theorem ab_charger {s : St} {c : Int32} {w : Int32} : (aCharger s c w).1 < 2147483648 := by
  unfold aCharger
  repeat' split
  all_goals exact Nat.le_of_ble_eq_true rfl
theorem ab_sign {s : St} {b : Int32} {w : Int32} : (aSign s b w).1 < 2147483648 := by
  unfold aSign
  repeat' split
  all_goals exact Nat.le_of_ble_eq_true rfl
theorem ab_setting {s : St} {w : Int32} : (aSetting s w).1 < 2147483648 := by
  unfold aSetting
  repeat' split
  all_goals exact Nat.le_of_ble_eq_true rfl
theorem ab_addBus {s : St} {a : Int32} {b : Int32} {c : Int32} {d : Int32} {e : Int32} : (aAddBus s a b c d e).1 < 2147483648 := by
  unfold aAddBus
  repeat' split
  all_goals exact Nat.le_of_ble_eq_true rfl
theorem ab_addCharger {s : St} {w : Int32} : (aAddC s w).1 < 2147483648 := by
  unfold aAddC
  repeat' split
  all_goals exact Nat.le_of_ble_eq_true rfl
theorem ab_route {s : St} {b : Int32} {a : Int32} {l : Int32} {k : Int32} : (aRoute s b a l k).1 < 2147483648 := by
  unfold aRoute
  repeat' split
  all_goals exact Nat.le_of_ble_eq_true rfl
theorem ab_battery {s : St} {b : Int32} {a : Int32} : (aBattery s b a).1 < 2147483648 := by
  unfold aBattery
  repeat' split
  all_goals exact Nat.le_of_ble_eq_true rfl
theorem ab_run {s : St} {w : Int32} : (aRun s w).1 < 2147483648 := by
  unfold aRun
  repeat' split
  all_goals exact Nat.le_of_ble_eq_true rfl
theorem ab_set {s : St} {w : Int32} {v : Int32} : (aSet s w v).1 < 2147483648 := by
  unfold aSet
  repeat' split
  all_goals exact Nat.le_of_ble_eq_true rfl
theorem ab_undo {s : St}  : (aUndo s ).1 < 2147483648 := by
  unfold aUndo
  repeat' split
  all_goals exact Nat.le_of_ble_eq_true rfl
theorem ab_coming {s : St} {m : Int32} {w : Int32} : (aComing s m w).1 < 2147483648 := by
  unfold aComing
  repeat' split
  all_goals exact Nat.le_of_ble_eq_true rfl
theorem ab_firstMissed {s : St} {b : Int32} : (aFirst s b).1 < 2147483648 := by
  unfold aFirst
  repeat' split
  all_goals exact Nat.le_of_ble_eq_true rfl
theorem ab_leastLimit {s : St} {m : Int32} : (aLeast s m).1 < 2147483648 := by
  unfold aLeast
  repeat' split
  all_goals exact Nat.le_of_ble_eq_true rfl
theorem ab_bestNight {s : St} {m : Int32} : (aBest s m).1 < 2147483648 := by
  unfold aBest
  repeat' split
  all_goals exact Nat.le_of_ble_eq_true rfl
theorem ab_ifPlugged {s : St} {p : Int32} {m : Int32} : (aIfP s p m).1 < 2147483648 := by
  unfold aIfP
  repeat' split
  all_goals exact Nat.le_of_ble_eq_true rfl
theorem ab_runScript {s : St} {w : Int32} {v : Int64} : (aScript s w v).1 < 2147483648 := by
  unfold aScript
  repeat' split
  all_goals exact Nat.le_of_ble_eq_true rfl
theorem ab_simulate {s : St} {v : Int64} {w : Int32} : (aSim s v w).1 < 2147483648 := by
  unfold aSim
  repeat' split
  all_goals exact Nat.le_of_ble_eq_true rfl
theorem ab_save {s : St} {v : Int32} : (aSave s v).1 < 2147483648 := by
  unfold aSave
  repeat' split
  all_goals exact Nat.le_of_ble_eq_true rfl
theorem ab_restore {s : St} {v : Int32} : (aRestore s v).1 < 2147483648 := by
  unfold aRestore
  repeat' split
  all_goals exact Nat.le_of_ble_eq_true rfl
theorem lc_append {nm : String} {G : GT} {C : AH} {Q : QT} {sa va : Nat → Nat} {x b N T k kk nn : Nat} {xs : Nat → Int32} {s : St} (hO : GO G) (hX : GX G sa va) (hN : GN G) (hb : eT G .int b N (fun j => .int (xs j))) (hT : T ≤ 39000) (h6 : 6000 ≤ T) (hI : LwI C x T s) (hk : 6 * k + 6 ≤ N) (hL : N ≤ 3072) (hkk : 4 ≤ kk) (hnn : 32 ≤ nn) (hq : ∀ (C' : AH) (s' : St) (k' n' : Nat), kk - 4 ≤ k' → nn - 32 ≤ n' → LwI C' x (T + 48) s' → Ex G (M_law nm) Q NX k' n' 1702 [(0, .ref b), (1, .ref x), (2, .ref (x + 255)), (3, .ref (x + 269)), (4, .int (nI (6 * k)))] [] C') : Ex G (M_law nm) Q NX kk nn 156 [(0, .ref b), (1, .ref x), (2, .ref (x + 255)), (3, .ref (x + 269)), (4, .int (nI (6 * k)))] [] C := by
  obtain ⟨S, n, ρ, L, K⟩ := s
  obtain ⟨hR0, hM0, ko, no, hz⟩ := id hI
  refine x_aload_n dL_law_156 rfl ?_
  refine x_aload_n dL_law_157 rfl ?_
  refine x_iload dL_law_158 rfl ?_
  refine x_iconst (v := nI 1) dL_law_160 (by decide) ?_
  refine x_iadd dL_law_161 ?_
  refine x_tald _ hb dL_law_162 (nI_add _ _) (by omega) (by omega) ?_
  refine x_aload_n dL_law_163 rfl ?_
  refine x_callSX (As := [_, _, _]) hO dL_law_164 o_L_append s_L_append l_L_95 ⟨Nat.le_of_ble_eq_true rfl, Nat.le_of_ble_eq_true rfl⟩ ⟨(by show 2 ≤ kk; omega), (by show 12 ≤ nn; omega)⟩ rfl rfl (Nat.le_of_ble_eq_true rfl) (l_append (X := NX) (T := T) hN hO hX hR0 ko no (Or.inr (by omega)) (by omega) (fun r5 C5 hR5 hF5 h5 hJ5 => ?_))
  dsimp only [Option.toList, List.cons_append, List.nil_append]
  subst h5
  refine x_istore dL_law_167 (Nat.le_of_ble_eq_true rfl) ?_
  refine x_aload_n dL_law_169 rfl ?_
  refine x_aload_n dL_law_170 rfl ?_
  refine x_iload dL_law_171 rfl ?_
  refine x_iconst (v := nI 1) dL_law_173 (by decide) ?_
  refine x_iadd dL_law_174 ?_
  refine x_tald _ hb dL_law_175 (nI_add _ _) (by omega) (by omega) ?_
  refine x_callV (As := [_]) 7 hO dL_law_176 o_X5_append v_X5_append l_L_100 ⟨Nat.le_of_ble_eq_true rfl, Nat.le_of_ble_eq_true rfl⟩ ((hF5.2 _ (by omega) (by omega)).1.trans hM0.2.1.1) ⟨Nat.le_of_ble_eq_true rfl, Nat.le_of_ble_eq_true rfl⟩ rfl ⟨Nat.zero_le _, Nat.zero_le _⟩ rfl rfl (Nat.le_of_ble_eq_true rfl) (r_append (C := C5) (T := T) hO (by omega) (RM_L hM0 hF5 (Nat.le_refl _) (by omega)) (fun r6 f6 hM6 hf6 z6 v6 => ?_))
  dsimp only [Option.toList, List.cons_append, List.nil_append]
  refine x_istore dL_law_179 (Nat.le_of_ble_eq_true rfl) ?_
  refine x_aload_n dL_law_181 rfl ?_
  refine x_callV (As := []) 7 hO dL_law_182 o_X5_thrown v_X5_thrown l_L_101 ⟨Nat.le_of_ble_eq_true rfl, Nat.le_of_ble_eq_true rfl⟩ hM6.2.1.1 ⟨Nat.le_of_ble_eq_true rfl, Nat.le_of_ble_eq_true rfl⟩ rfl ⟨Nat.zero_le _, Nat.zero_le _⟩ rfl rfl (Nat.le_of_ble_eq_true rfl) (r_thrown hO hM6.2.1 ?_)
  dsimp only [Option.toList, List.cons_append, List.nil_append]
  rw [show gI (wI C5 f6) (x + 255) 0 = nI (aAppend (S, n, ρ, L, K) (xs (6 * k + 1))).1 from z6]
  refine x_iload dL_law_185 rfl ?_
  refine x_icmp_eq (tgt := 192) dL_law_187 (by decide) (fun c187 => ?_) (fun c187 => ?_)
  · refine x_iload dL_law_192 rfl ?_
    refine x_if_ne (tgt := 209) dL_law_194 (by decide) (fun c194 => ?_) (fun c194 => ?_)
    · refine x_goto (tgt := 1702) dL_law_209 (by decide) ?_
      refine x_ls [(0, .ref b), (1, .ref x), (2, .ref (x + 255)), (3, .ref (x + 269)), (4, .int (nI (6 * k)))] ⟨rfl, rfl, rfl, rfl, rfl, trivial⟩ ?_
      exact hq _ _ _ _ (by show kk - 4 ≤ kk - 2 - 0 - 0; omega) (by show nn - 32 ≤ nn - 12 - 0 - 0; omega) (LwI_next hI hR5 hF5 hM6 hf6 (by omega))
    · have h0 : (aAppend (S, n, ρ, L, K) (xs (6 * k + 1))).1 = 0 := (nI_z ab_append).mp c194
      have v6 := v6 h0
      subst v6
      have ko9 : gK (wI C5 f6) (x + 269) = 24 := (hF5.2 _ (by omega) (by omega)).1.trans ko
      have no9 : gN (wI C5 f6) (x + 269) = 1 := (hF5.2 _ (by omega) (by omega)).2.1.trans no
      refine x_aload_n dL_law_197 rfl ?_
      refine x_iconst (v := nI 0) dL_law_198 (by decide) ?_
      refine x_lald 0 1 hO dL_law_199 ko9 rfl no9 (by decide) (by decide) ?_
      rw [show gJ (wI C5 f6) (x + 269) 0 = (aAppend (S, n, ρ, L, K) (xs (6 * k + 1))).2.1.toInt64 from hJ5 h0]
      refine x_iload dL_law_200 rfl ?_
      refine x_i2l dL_law_202 ?_
      refine x_lcmp dL_law_203 ?_
      refine x_if_eq (tgt := 209) dL_law_204 (by decide) (fun c204 => ?_) (fun c204 => ?_)
      · refine x_goto (tgt := 1702) dL_law_209 (by decide) ?_
        refine x_ls [(0, .ref b), (1, .ref x), (2, .ref (x + 255)), (3, .ref (x + 269)), (4, .int (nI (6 * k)))] ⟨rfl, rfl, rfl, rfl, rfl, trivial⟩ ?_
        exact hq _ _ _ _ (by show kk - 4 ≤ kk - 2 - 0 - 0; omega) (by show nn - 32 ≤ nn - 12 - 0 - 0; omega) (LwI_next hI hR5 hF5 hM6 hf6 (by omega))
      · exact absurd lg_self c204
  · exact absurd rfl c187

theorem lc_clearText {nm : String} {G : GT} {C : AH} {Q : QT} {sa va : Nat → Nat} {x b N T k kk nn : Nat} {xs : Nat → Int32} {s : St} (hO : GO G) (hX : GX G sa va) (hN : GN G) (hb : eT G .int b N (fun j => .int (xs j))) (hT : T ≤ 39000) (h6 : 6000 ≤ T) (hI : LwI C x T s) (hk : 6 * k + 6 ≤ N) (hL : N ≤ 3072) (hkk : 4 ≤ kk) (hnn : 32 ≤ nn) (hq : ∀ (C' : AH) (s' : St) (k' n' : Nat), kk - 4 ≤ k' → nn - 32 ≤ n' → LwI C' x (T + 48) s' → Ex G (M_law nm) Q NX k' n' 1702 [(0, .ref b), (1, .ref x), (2, .ref (x + 255)), (3, .ref (x + 269)), (4, .int (nI (6 * k)))] [] C') : Ex G (M_law nm) Q NX kk nn 212 [(0, .ref b), (1, .ref x), (2, .ref (x + 255)), (3, .ref (x + 269)), (4, .int (nI (6 * k)))] [] C := by
  obtain ⟨S, n, ρ, L, K⟩ := s
  obtain ⟨hR0, hM0, ko, no, hz⟩ := id hI
  refine x_aload_n dL_law_212 rfl ?_
  refine x_callV (As := []) 6 hO dL_law_213 o_X4_clearText v_X4_clearText l_L_104 ⟨Nat.le_of_ble_eq_true rfl, Nat.le_of_ble_eq_true rfl⟩ (RX_K hR0) ⟨Nat.le_of_ble_eq_true rfl, Nat.le_of_ble_eq_true rfl⟩ rfl ⟨Nat.zero_le _, Nat.zero_le _⟩ rfl rfl (Nat.le_of_ble_eq_true rfl) (t_clearText hO hX hR0 (fun h0 C5 hR5 hF5 => ?_))
  dsimp only [Option.toList, List.cons_append, List.nil_append]
  have hF5 := FrL_of hF5
  refine x_aload_n dL_law_216 rfl ?_
  refine x_callV (As := []) 7 hO dL_law_217 o_X5_clearText v_X5_clearText l_L_107 ⟨Nat.le_of_ble_eq_true rfl, Nat.le_of_ble_eq_true rfl⟩ ((hF5.2 _ (by omega) (by omega)).1.trans hM0.2.1.1) ⟨Nat.le_of_ble_eq_true rfl, Nat.le_of_ble_eq_true rfl⟩ rfl ⟨Nat.zero_le _, Nat.zero_le _⟩ rfl rfl (Nat.le_of_ble_eq_true rfl) (r_clearText (C := C5) (T := T) hO (by omega) (RM_L hM0 hF5 (Nat.le_refl _) (by omega)) (fun r6 f6 hM6 hf6 z6 v6 => ?_))
  dsimp only [Option.toList, List.cons_append, List.nil_append]
  refine x_icmp_eq (tgt := 1702) dL_law_220 (by decide) (fun c220 => ?_) (fun c220 => ?_)
  · refine x_ls [(0, .ref b), (1, .ref x), (2, .ref (x + 255)), (3, .ref (x + 269)), (4, .int (nI (6 * k)))] ⟨rfl, rfl, rfl, rfl, rfl, trivial⟩ ?_
    exact hq _ _ _ _ (by show kk - 4 ≤ kk - 0 - 0; omega) (by show nn - 32 ≤ nn - 0 - 0; omega) (LwI_next hI hR5 hF5 hM6 hf6 (by omega))
  · exact absurd (v6 h0).symm c220

theorem lc_errorPosition {nm : String} {G : GT} {C : AH} {Q : QT} {sa va : Nat → Nat} {x b N T k kk nn : Nat} {xs : Nat → Int32} {s : St} (hO : GO G) (hX : GX G sa va) (hN : GN G) (hb : eT G .int b N (fun j => .int (xs j))) (hT : T ≤ 39000) (h6 : 6000 ≤ T) (hI : LwI C x T s) (hk : 6 * k + 6 ≤ N) (hL : N ≤ 3072) (hkk : 4 ≤ kk) (hnn : 32 ≤ nn) (hq : ∀ (C' : AH) (s' : St) (k' n' : Nat), kk - 4 ≤ k' → nn - 32 ≤ n' → LwI C' x (T + 48) s' → Ex G (M_law nm) Q NX k' n' 1702 [(0, .ref b), (1, .ref x), (2, .ref (x + 255)), (3, .ref (x + 269)), (4, .int (nI (6 * k)))] [] C') : Ex G (M_law nm) Q NX kk nn 225 [(0, .ref b), (1, .ref x), (2, .ref (x + 255)), (3, .ref (x + 269)), (4, .int (nI (6 * k)))] [] C := by
  obtain ⟨S, n, ρ, L, K⟩ := s
  obtain ⟨hR0, hM0, ko, no, hz⟩ := id hI
  refine x_aload_n dL_law_225 rfl ?_
  refine x_callV (As := []) 6 hO dL_law_226 o_X4_errorPosition v_X4_errorPosition l_L_108 ⟨Nat.le_of_ble_eq_true rfl, Nat.le_of_ble_eq_true rfl⟩ (RX_K hR0) ⟨Nat.le_of_ble_eq_true rfl, Nat.le_of_ble_eq_true rfl⟩ rfl ⟨Nat.zero_le _, Nat.zero_le _⟩ rfl rfl (Nat.le_of_ble_eq_true rfl) (t_errorPosition hO hX hR0 (fun h0 C5 hR5 hF5 => ?_))
  dsimp only [Option.toList, List.cons_append, List.nil_append]
  have hF5 := FrL_of hF5
  refine x_aload_n dL_law_229 rfl ?_
  refine x_callV (As := []) 7 hO dL_law_230 o_X5_errorPosition v_X5_errorPosition l_L_111 ⟨Nat.le_of_ble_eq_true rfl, Nat.le_of_ble_eq_true rfl⟩ ((hF5.2 _ (by omega) (by omega)).1.trans hM0.2.1.1) ⟨Nat.le_of_ble_eq_true rfl, Nat.le_of_ble_eq_true rfl⟩ rfl ⟨Nat.zero_le _, Nat.zero_le _⟩ rfl rfl (Nat.le_of_ble_eq_true rfl) (r_errorPosition (C := C5) (T := T) hO (by omega) (RM_L hM0 hF5 (Nat.le_refl _) (by omega)) (fun r6 f6 hM6 hf6 z6 v6 => ?_))
  dsimp only [Option.toList, List.cons_append, List.nil_append]
  refine x_icmp_eq (tgt := 1702) dL_law_233 (by decide) (fun c233 => ?_) (fun c233 => ?_)
  · refine x_ls [(0, .ref b), (1, .ref x), (2, .ref (x + 255)), (3, .ref (x + 269)), (4, .int (nI (6 * k)))] ⟨rfl, rfl, rfl, rfl, rfl, trivial⟩ ?_
    exact hq _ _ _ _ (by show kk - 4 ≤ kk - 0 - 0; omega) (by show nn - 32 ≤ nn - 0 - 0; omega) (LwI_next hI hR5 hF5 hM6 hf6 (by omega))
  · exact absurd (v6 h0).symm c233

theorem lc_load {nm : String} {G : GT} {C : AH} {Q : QT} {sa va : Nat → Nat} {x b N T k kk nn : Nat} {xs : Nat → Int32} {s : St} (hO : GO G) (hX : GX G sa va) (hN : GN G) (hb : eT G .int b N (fun j => .int (xs j))) (hT : T ≤ 39000) (h6 : 6000 ≤ T) (hI : LwI C x T s) (hk : 6 * k + 6 ≤ N) (hL : N ≤ 3072) (hkk : 4 ≤ kk) (hnn : 32 ≤ nn) (hq : ∀ (C' : AH) (s' : St) (k' n' : Nat), kk - 4 ≤ k' → nn - 32 ≤ n' → LwI C' x (T + 48) s' → Ex G (M_law nm) Q NX k' n' 1702 [(0, .ref b), (1, .ref x), (2, .ref (x + 255)), (3, .ref (x + 269)), (4, .int (nI (6 * k)))] [] C') : Ex G (M_law nm) Q NX kk nn 238 [(0, .ref b), (1, .ref x), (2, .ref (x + 255)), (3, .ref (x + 269)), (4, .int (nI (6 * k)))] [] C := by
  obtain ⟨S, n, ρ, L, K⟩ := s
  obtain ⟨hR0, hM0, ko, no, hz⟩ := id hI
  refine x_aload_n dL_law_238 rfl ?_
  refine x_aload_n dL_law_239 rfl ?_
  refine x_callSX (As := [_, _]) hO dL_law_240 o_L_load s_L_load l_L_112 ⟨Nat.le_of_ble_eq_true rfl, Nat.le_of_ble_eq_true rfl⟩ ⟨(by show 1 ≤ kk; omega), (by show 6 ≤ nn; omega)⟩ rfl rfl (Nat.le_of_ble_eq_true rfl) (l_load (X := NX) (T := T) hN hO hX (by omega) hR0 h6 ko no (Or.inr (by omega)) (by omega) (fun r5 C5 hR5 hF5 h5 hJ5 => ?_))
  dsimp only [Option.toList, List.cons_append, List.nil_append]
  subst h5
  refine x_istore dL_law_243 (Nat.le_of_ble_eq_true rfl) ?_
  refine x_aload_n dL_law_245 rfl ?_
  refine x_callV (As := []) 7 hO dL_law_246 o_X5_load v_X5_load l_L_115 ⟨Nat.le_of_ble_eq_true rfl, Nat.le_of_ble_eq_true rfl⟩ ((hF5.2 _ (by omega) (by omega)).1.trans hM0.2.1.1) ⟨Nat.le_of_ble_eq_true rfl, Nat.le_of_ble_eq_true rfl⟩ rfl ⟨Nat.zero_le _, Nat.zero_le _⟩ rfl rfl (Nat.le_of_ble_eq_true rfl) (r_load (C := C5) (T := T) hO (by omega) (RM_L hM0 hF5 (Nat.le_refl _) (by omega)) h6 (fun r6 f6 hM6 hf6 z6 v6 => ?_))
  dsimp only [Option.toList, List.cons_append, List.nil_append]
  refine x_istore dL_law_249 (Nat.le_of_ble_eq_true rfl) ?_
  refine x_aload_n dL_law_251 rfl ?_
  refine x_callV (As := []) 7 hO dL_law_252 o_X5_thrown v_X5_thrown l_L_101 ⟨Nat.le_of_ble_eq_true rfl, Nat.le_of_ble_eq_true rfl⟩ hM6.2.1.1 ⟨Nat.le_of_ble_eq_true rfl, Nat.le_of_ble_eq_true rfl⟩ rfl ⟨Nat.zero_le _, Nat.zero_le _⟩ rfl rfl (Nat.le_of_ble_eq_true rfl) (r_thrown hO hM6.2.1 ?_)
  dsimp only [Option.toList, List.cons_append, List.nil_append]
  rw [show gI (wI C5 f6) (x + 255) 0 = nI (aLoad (S, n, ρ, L, K)).1 from z6]
  refine x_iload dL_law_255 rfl ?_
  refine x_icmp_eq (tgt := 262) dL_law_257 (by decide) (fun c257 => ?_) (fun c257 => ?_)
  · refine x_iload dL_law_262 rfl ?_
    refine x_if_ne (tgt := 279) dL_law_264 (by decide) (fun c264 => ?_) (fun c264 => ?_)
    · refine x_goto (tgt := 1702) dL_law_279 (by decide) ?_
      refine x_ls [(0, .ref b), (1, .ref x), (2, .ref (x + 255)), (3, .ref (x + 269)), (4, .int (nI (6 * k)))] ⟨rfl, rfl, rfl, rfl, rfl, trivial⟩ ?_
      exact hq _ _ _ _ (by show kk - 4 ≤ kk - 1 - 0 - 0; omega) (by show nn - 32 ≤ nn - 6 - 0 - 0; omega) (LwI_next hI hR5 hF5 hM6 hf6 (by omega))
    · have h0 : (aLoad (S, n, ρ, L, K)).1 = 0 := (nI_z ab_load).mp c264
      have v6 := v6 h0
      subst v6
      have ko9 : gK (wI C5 f6) (x + 269) = 24 := (hF5.2 _ (by omega) (by omega)).1.trans ko
      have no9 : gN (wI C5 f6) (x + 269) = 1 := (hF5.2 _ (by omega) (by omega)).2.1.trans no
      refine x_aload_n dL_law_267 rfl ?_
      refine x_iconst (v := nI 0) dL_law_268 (by decide) ?_
      refine x_lald 0 1 hO dL_law_269 ko9 rfl no9 (by decide) (by decide) ?_
      rw [show gJ (wI C5 f6) (x + 269) 0 = (aLoad (S, n, ρ, L, K)).2.1.toInt64 from hJ5 h0]
      refine x_iload dL_law_270 rfl ?_
      refine x_i2l dL_law_272 ?_
      refine x_lcmp dL_law_273 ?_
      refine x_if_eq (tgt := 279) dL_law_274 (by decide) (fun c274 => ?_) (fun c274 => ?_)
      · refine x_goto (tgt := 1702) dL_law_279 (by decide) ?_
        refine x_ls [(0, .ref b), (1, .ref x), (2, .ref (x + 255)), (3, .ref (x + 269)), (4, .int (nI (6 * k)))] ⟨rfl, rfl, rfl, rfl, rfl, trivial⟩ ?_
        exact hq _ _ _ _ (by show kk - 4 ≤ kk - 1 - 0 - 0; omega) (by show nn - 32 ≤ nn - 6 - 0 - 0; omega) (LwI_next hI hR5 hF5 hM6 hf6 (by omega))
      · exact absurd lg_self c274
  · exact absurd rfl c257

theorem lc_about {nm : String} {G : GT} {C : AH} {Q : QT} {sa va : Nat → Nat} {x b N T k kk nn : Nat} {xs : Nat → Int32} {s : St} (hO : GO G) (hX : GX G sa va) (hN : GN G) (hb : eT G .int b N (fun j => .int (xs j))) (hT : T ≤ 39000) (h6 : 6000 ≤ T) (hI : LwI C x T s) (hk : 6 * k + 6 ≤ N) (hL : N ≤ 3072) (hkk : 4 ≤ kk) (hnn : 32 ≤ nn) (hq : ∀ (C' : AH) (s' : St) (k' n' : Nat), kk - 4 ≤ k' → nn - 32 ≤ n' → LwI C' x (T + 48) s' → Ex G (M_law nm) Q NX k' n' 1702 [(0, .ref b), (1, .ref x), (2, .ref (x + 255)), (3, .ref (x + 269)), (4, .int (nI (6 * k)))] [] C') : Ex G (M_law nm) Q NX kk nn 282 [(0, .ref b), (1, .ref x), (2, .ref (x + 255)), (3, .ref (x + 269)), (4, .int (nI (6 * k)))] [] C := by
  obtain ⟨S, n, ρ, L, K⟩ := s
  obtain ⟨hR0, hM0, ko, no, hz⟩ := id hI
  refine x_aload_n dL_law_282 rfl ?_
  refine x_aload_n dL_law_283 rfl ?_
  refine x_iload dL_law_284 rfl ?_
  refine x_iconst (v := nI 1) dL_law_286 (by decide) ?_
  refine x_iadd dL_law_287 ?_
  refine x_tald _ hb dL_law_288 (nI_add _ _) (by omega) (by omega) ?_
  refine x_aload_n dL_law_289 rfl ?_
  refine x_callSX (As := [_, _, _]) hO dL_law_290 o_L_about s_L_about l_L_116 ⟨Nat.le_of_ble_eq_true rfl, Nat.le_of_ble_eq_true rfl⟩ ⟨(by show 1 ≤ kk; omega), (by show 6 ≤ nn; omega)⟩ rfl rfl (Nat.le_of_ble_eq_true rfl) (l_about (X := NX) (T := T) hN hO hX (by omega) hR0 ko no (Or.inr (by omega)) (by omega) (fun r5 C5 hR5 hF5 h5 hJ5 => ?_))
  dsimp only [Option.toList, List.cons_append, List.nil_append]
  subst h5
  refine x_istore dL_law_293 (Nat.le_of_ble_eq_true rfl) ?_
  refine x_aload_n dL_law_295 rfl ?_
  refine x_aload_n dL_law_296 rfl ?_
  refine x_iload dL_law_297 rfl ?_
  refine x_iconst (v := nI 1) dL_law_299 (by decide) ?_
  refine x_iadd dL_law_300 ?_
  refine x_tald _ hb dL_law_301 (nI_add _ _) (by omega) (by omega) ?_
  refine x_callV (As := [_]) 7 hO dL_law_302 o_X5_about v_X5_about l_L_118 ⟨Nat.le_of_ble_eq_true rfl, Nat.le_of_ble_eq_true rfl⟩ ((hF5.2 _ (by omega) (by omega)).1.trans hM0.2.1.1) ⟨Nat.le_of_ble_eq_true rfl, Nat.le_of_ble_eq_true rfl⟩ rfl ⟨Nat.zero_le _, Nat.zero_le _⟩ rfl rfl (Nat.le_of_ble_eq_true rfl) (r_about (C := C5) (T := T) hO (by omega) (RM_L hM0 hF5 (Nat.le_refl _) (by omega)) (fun r6 f6 hM6 hf6 z6 v6 => ?_))
  dsimp only [Option.toList, List.cons_append, List.nil_append]
  refine x_istore dL_law_305 (Nat.le_of_ble_eq_true rfl) ?_
  refine x_aload_n dL_law_307 rfl ?_
  refine x_callV (As := []) 7 hO dL_law_308 o_X5_thrown v_X5_thrown l_L_101 ⟨Nat.le_of_ble_eq_true rfl, Nat.le_of_ble_eq_true rfl⟩ hM6.2.1.1 ⟨Nat.le_of_ble_eq_true rfl, Nat.le_of_ble_eq_true rfl⟩ rfl ⟨Nat.zero_le _, Nat.zero_le _⟩ rfl rfl (Nat.le_of_ble_eq_true rfl) (r_thrown hO hM6.2.1 ?_)
  dsimp only [Option.toList, List.cons_append, List.nil_append]
  rw [show gI (wI C5 f6) (x + 255) 0 = nI (aAbout (S, n, ρ, L, K) (xs (6 * k + 1))).1 from z6]
  refine x_iload dL_law_311 rfl ?_
  refine x_icmp_eq (tgt := 318) dL_law_313 (by decide) (fun c313 => ?_) (fun c313 => ?_)
  · refine x_iload dL_law_318 rfl ?_
    refine x_if_ne (tgt := 335) dL_law_320 (by decide) (fun c320 => ?_) (fun c320 => ?_)
    · refine x_goto (tgt := 1702) dL_law_335 (by decide) ?_
      refine x_ls [(0, .ref b), (1, .ref x), (2, .ref (x + 255)), (3, .ref (x + 269)), (4, .int (nI (6 * k)))] ⟨rfl, rfl, rfl, rfl, rfl, trivial⟩ ?_
      exact hq _ _ _ _ (by show kk - 4 ≤ kk - 1 - 0 - 0; omega) (by show nn - 32 ≤ nn - 6 - 0 - 0; omega) (LwI_next hI hR5 hF5 hM6 hf6 (by omega))
    · have h0 : (aAbout (S, n, ρ, L, K) (xs (6 * k + 1))).1 = 0 := (nI_z ab_about).mp c320
      have v6 := v6 h0
      subst v6
      have ko9 : gK (wI C5 f6) (x + 269) = 24 := (hF5.2 _ (by omega) (by omega)).1.trans ko
      have no9 : gN (wI C5 f6) (x + 269) = 1 := (hF5.2 _ (by omega) (by omega)).2.1.trans no
      refine x_aload_n dL_law_323 rfl ?_
      refine x_iconst (v := nI 0) dL_law_324 (by decide) ?_
      refine x_lald 0 1 hO dL_law_325 ko9 rfl no9 (by decide) (by decide) ?_
      rw [show gJ (wI C5 f6) (x + 269) 0 = (aAbout (S, n, ρ, L, K) (xs (6 * k + 1))).2.1.toInt64 from hJ5 h0]
      refine x_iload dL_law_326 rfl ?_
      refine x_i2l dL_law_328 ?_
      refine x_lcmp dL_law_329 ?_
      refine x_if_eq (tgt := 335) dL_law_330 (by decide) (fun c330 => ?_) (fun c330 => ?_)
      · refine x_goto (tgt := 1702) dL_law_335 (by decide) ?_
        refine x_ls [(0, .ref b), (1, .ref x), (2, .ref (x + 255)), (3, .ref (x + 269)), (4, .int (nI (6 * k)))] ⟨rfl, rfl, rfl, rfl, rfl, trivial⟩ ?_
        exact hq _ _ _ _ (by show kk - 4 ≤ kk - 1 - 0 - 0; omega) (by show nn - 32 ≤ nn - 6 - 0 - 0; omega) (LwI_next hI hR5 hF5 hM6 hf6 (by omega))
      · exact absurd lg_self c330
  · exact absurd rfl c313

theorem lc_bus {nm : String} {G : GT} {C : AH} {Q : QT} {sa va : Nat → Nat} {x b N T k kk nn : Nat} {xs : Nat → Int32} {s : St} (hO : GO G) (hX : GX G sa va) (hN : GN G) (hb : eT G .int b N (fun j => .int (xs j))) (hT : T ≤ 39000) (h6 : 6000 ≤ T) (hI : LwI C x T s) (hk : 6 * k + 6 ≤ N) (hL : N ≤ 3072) (hkk : 4 ≤ kk) (hnn : 32 ≤ nn) (hq : ∀ (C' : AH) (s' : St) (k' n' : Nat), kk - 4 ≤ k' → nn - 32 ≤ n' → LwI C' x (T + 48) s' → Ex G (M_law nm) Q NX k' n' 1702 [(0, .ref b), (1, .ref x), (2, .ref (x + 255)), (3, .ref (x + 269)), (4, .int (nI (6 * k)))] [] C') : Ex G (M_law nm) Q NX kk nn 338 [(0, .ref b), (1, .ref x), (2, .ref (x + 255)), (3, .ref (x + 269)), (4, .int (nI (6 * k)))] [] C := by
  obtain ⟨S, n, ρ, L, K⟩ := s
  obtain ⟨hR0, hM0, ko, no, hz⟩ := id hI
  refine x_aload_n dL_law_338 rfl ?_
  refine x_aload_n dL_law_339 rfl ?_
  refine x_iload dL_law_340 rfl ?_
  refine x_iconst (v := nI 1) dL_law_342 (by decide) ?_
  refine x_iadd dL_law_343 ?_
  refine x_tald _ hb dL_law_344 (nI_add _ _) (by omega) (by omega) ?_
  refine x_aload_n dL_law_345 rfl ?_
  refine x_iload dL_law_346 rfl ?_
  refine x_iconst (v := nI 2) dL_law_348 (by decide) ?_
  refine x_iadd dL_law_349 ?_
  refine x_tald _ hb dL_law_350 (nI_add _ _) (by omega) (by omega) ?_
  refine x_aload_n dL_law_351 rfl ?_
  refine x_callSX (As := [_, _, _, _]) hO dL_law_352 o_L_bus s_L_bus l_L_119 ⟨Nat.le_of_ble_eq_true rfl, Nat.le_of_ble_eq_true rfl⟩ ⟨(by show 2 ≤ kk; omega), (by show 12 ≤ nn; omega)⟩ rfl rfl (Nat.le_of_ble_eq_true rfl) (l_bus (X := NX) (T := T) hN hO hX (by omega) hR0 ko no (Or.inr (by omega)) (by omega) (fun r5 C5 hR5 hF5 h5 hJ5 => ?_))
  dsimp only [Option.toList, List.cons_append, List.nil_append]
  subst h5
  refine x_istore dL_law_355 (Nat.le_of_ble_eq_true rfl) ?_
  refine x_aload_n dL_law_357 rfl ?_
  refine x_aload_n dL_law_358 rfl ?_
  refine x_iload dL_law_359 rfl ?_
  refine x_iconst (v := nI 1) dL_law_361 (by decide) ?_
  refine x_iadd dL_law_362 ?_
  refine x_tald _ hb dL_law_363 (nI_add _ _) (by omega) (by omega) ?_
  refine x_aload_n dL_law_364 rfl ?_
  refine x_iload dL_law_365 rfl ?_
  refine x_iconst (v := nI 2) dL_law_367 (by decide) ?_
  refine x_iadd dL_law_368 ?_
  refine x_tald _ hb dL_law_369 (nI_add _ _) (by omega) (by omega) ?_
  refine x_callV (As := [_, _]) 7 hO dL_law_370 o_X5_bus v_X5_bus l_L_122 ⟨Nat.le_of_ble_eq_true rfl, Nat.le_of_ble_eq_true rfl⟩ ((hF5.2 _ (by omega) (by omega)).1.trans hM0.2.1.1) ⟨Nat.le_of_ble_eq_true rfl, Nat.le_of_ble_eq_true rfl⟩ rfl ⟨Nat.zero_le _, Nat.zero_le _⟩ rfl rfl (Nat.le_of_ble_eq_true rfl) (r_bus (C := C5) (T := T) hO (by omega) (RM_L hM0 hF5 (Nat.le_refl _) (by omega)) (fun r6 f6 hM6 hf6 z6 v6 => ?_))
  dsimp only [Option.toList, List.cons_append, List.nil_append]
  refine x_istore dL_law_373 (Nat.le_of_ble_eq_true rfl) ?_
  refine x_aload_n dL_law_375 rfl ?_
  refine x_callV (As := []) 7 hO dL_law_376 o_X5_thrown v_X5_thrown l_L_101 ⟨Nat.le_of_ble_eq_true rfl, Nat.le_of_ble_eq_true rfl⟩ hM6.2.1.1 ⟨Nat.le_of_ble_eq_true rfl, Nat.le_of_ble_eq_true rfl⟩ rfl ⟨Nat.zero_le _, Nat.zero_le _⟩ rfl rfl (Nat.le_of_ble_eq_true rfl) (r_thrown hO hM6.2.1 ?_)
  dsimp only [Option.toList, List.cons_append, List.nil_append]
  rw [show gI (wI C5 f6) (x + 255) 0 = nI (aBus (S, n, ρ, L, K) (xs (6 * k + 1)) (xs (6 * k + 2))).1 from z6]
  refine x_iload dL_law_379 rfl ?_
  refine x_icmp_eq (tgt := 386) dL_law_381 (by decide) (fun c381 => ?_) (fun c381 => ?_)
  · refine x_iload dL_law_386 rfl ?_
    refine x_if_ne (tgt := 403) dL_law_388 (by decide) (fun c388 => ?_) (fun c388 => ?_)
    · refine x_goto (tgt := 1702) dL_law_403 (by decide) ?_
      refine x_ls [(0, .ref b), (1, .ref x), (2, .ref (x + 255)), (3, .ref (x + 269)), (4, .int (nI (6 * k)))] ⟨rfl, rfl, rfl, rfl, rfl, trivial⟩ ?_
      exact hq _ _ _ _ (by show kk - 4 ≤ kk - 2 - 0 - 0; omega) (by show nn - 32 ≤ nn - 12 - 0 - 0; omega) (LwI_next hI hR5 hF5 hM6 hf6 (by omega))
    · have h0 : (aBus (S, n, ρ, L, K) (xs (6 * k + 1)) (xs (6 * k + 2))).1 = 0 := (nI_z ab_bus).mp c388
      have v6 := v6 h0
      subst v6
      have ko9 : gK (wI C5 f6) (x + 269) = 24 := (hF5.2 _ (by omega) (by omega)).1.trans ko
      have no9 : gN (wI C5 f6) (x + 269) = 1 := (hF5.2 _ (by omega) (by omega)).2.1.trans no
      refine x_aload_n dL_law_391 rfl ?_
      refine x_iconst (v := nI 0) dL_law_392 (by decide) ?_
      refine x_lald 0 1 hO dL_law_393 ko9 rfl no9 (by decide) (by decide) ?_
      rw [show gJ (wI C5 f6) (x + 269) 0 = (aBus (S, n, ρ, L, K) (xs (6 * k + 1)) (xs (6 * k + 2))).2.1.toInt64 from hJ5 h0]
      refine x_iload dL_law_394 rfl ?_
      refine x_i2l dL_law_396 ?_
      refine x_lcmp dL_law_397 ?_
      refine x_if_eq (tgt := 403) dL_law_398 (by decide) (fun c398 => ?_) (fun c398 => ?_)
      · refine x_goto (tgt := 1702) dL_law_403 (by decide) ?_
        refine x_ls [(0, .ref b), (1, .ref x), (2, .ref (x + 255)), (3, .ref (x + 269)), (4, .int (nI (6 * k)))] ⟨rfl, rfl, rfl, rfl, rfl, trivial⟩ ?_
        exact hq _ _ _ _ (by show kk - 4 ≤ kk - 2 - 0 - 0; omega) (by show nn - 32 ≤ nn - 12 - 0 - 0; omega) (LwI_next hI hR5 hF5 hM6 hf6 (by omega))
      · exact absurd lg_self c398
  · exact absurd rfl c381

theorem lc_charger {nm : String} {G : GT} {C : AH} {Q : QT} {sa va : Nat → Nat} {x b N T k kk nn : Nat} {xs : Nat → Int32} {s : St} (hO : GO G) (hX : GX G sa va) (hN : GN G) (hb : eT G .int b N (fun j => .int (xs j))) (hT : T ≤ 39000) (h6 : 6000 ≤ T) (hI : LwI C x T s) (hk : 6 * k + 6 ≤ N) (hL : N ≤ 3072) (hkk : 4 ≤ kk) (hnn : 32 ≤ nn) (hq : ∀ (C' : AH) (s' : St) (k' n' : Nat), kk - 4 ≤ k' → nn - 32 ≤ n' → LwI C' x (T + 48) s' → Ex G (M_law nm) Q NX k' n' 1702 [(0, .ref b), (1, .ref x), (2, .ref (x + 255)), (3, .ref (x + 269)), (4, .int (nI (6 * k)))] [] C') : Ex G (M_law nm) Q NX kk nn 406 [(0, .ref b), (1, .ref x), (2, .ref (x + 255)), (3, .ref (x + 269)), (4, .int (nI (6 * k)))] [] C := by
  obtain ⟨S, n, ρ, L, K⟩ := s
  obtain ⟨hR0, hM0, ko, no, hz⟩ := id hI
  refine x_aload_n dL_law_406 rfl ?_
  refine x_aload_n dL_law_407 rfl ?_
  refine x_iload dL_law_408 rfl ?_
  refine x_iconst (v := nI 1) dL_law_410 (by decide) ?_
  refine x_iadd dL_law_411 ?_
  refine x_tald _ hb dL_law_412 (nI_add _ _) (by omega) (by omega) ?_
  refine x_aload_n dL_law_413 rfl ?_
  refine x_iload dL_law_414 rfl ?_
  refine x_iconst (v := nI 2) dL_law_416 (by decide) ?_
  refine x_iadd dL_law_417 ?_
  refine x_tald _ hb dL_law_418 (nI_add _ _) (by omega) (by omega) ?_
  refine x_aload_n dL_law_419 rfl ?_
  refine x_callSX (As := [_, _, _, _]) hO dL_law_420 o_L_charger s_L_charger l_L_123 ⟨Nat.le_of_ble_eq_true rfl, Nat.le_of_ble_eq_true rfl⟩ ⟨(by show 2 ≤ kk; omega), (by show 12 ≤ nn; omega)⟩ rfl rfl (Nat.le_of_ble_eq_true rfl) (l_charger (X := NX) (T := T) hN hO hX (by omega) hR0 ko no (Or.inr (by omega)) (by omega) (fun r5 C5 hR5 hF5 h5 hJ5 => ?_))
  dsimp only [Option.toList, List.cons_append, List.nil_append]
  subst h5
  refine x_istore dL_law_423 (Nat.le_of_ble_eq_true rfl) ?_
  refine x_aload_n dL_law_425 rfl ?_
  refine x_aload_n dL_law_426 rfl ?_
  refine x_iload dL_law_427 rfl ?_
  refine x_iconst (v := nI 1) dL_law_429 (by decide) ?_
  refine x_iadd dL_law_430 ?_
  refine x_tald _ hb dL_law_431 (nI_add _ _) (by omega) (by omega) ?_
  refine x_aload_n dL_law_432 rfl ?_
  refine x_iload dL_law_433 rfl ?_
  refine x_iconst (v := nI 2) dL_law_435 (by decide) ?_
  refine x_iadd dL_law_436 ?_
  refine x_tald _ hb dL_law_437 (nI_add _ _) (by omega) (by omega) ?_
  refine x_callV (As := [_, _]) 7 hO dL_law_438 o_X5_charger v_X5_charger l_L_125 ⟨Nat.le_of_ble_eq_true rfl, Nat.le_of_ble_eq_true rfl⟩ ((hF5.2 _ (by omega) (by omega)).1.trans hM0.2.1.1) ⟨Nat.le_of_ble_eq_true rfl, Nat.le_of_ble_eq_true rfl⟩ rfl ⟨Nat.zero_le _, Nat.zero_le _⟩ rfl rfl (Nat.le_of_ble_eq_true rfl) (r_charger (C := C5) (T := T) hO (by omega) (RM_L hM0 hF5 (Nat.le_refl _) (by omega)) (fun r6 f6 hM6 hf6 z6 v6 => ?_))
  dsimp only [Option.toList, List.cons_append, List.nil_append]
  refine x_istore dL_law_441 (Nat.le_of_ble_eq_true rfl) ?_
  refine x_aload_n dL_law_443 rfl ?_
  refine x_callV (As := []) 7 hO dL_law_444 o_X5_thrown v_X5_thrown l_L_101 ⟨Nat.le_of_ble_eq_true rfl, Nat.le_of_ble_eq_true rfl⟩ hM6.2.1.1 ⟨Nat.le_of_ble_eq_true rfl, Nat.le_of_ble_eq_true rfl⟩ rfl ⟨Nat.zero_le _, Nat.zero_le _⟩ rfl rfl (Nat.le_of_ble_eq_true rfl) (r_thrown hO hM6.2.1 ?_)
  dsimp only [Option.toList, List.cons_append, List.nil_append]
  rw [show gI (wI C5 f6) (x + 255) 0 = nI (aCharger (S, n, ρ, L, K) (xs (6 * k + 1)) (xs (6 * k + 2))).1 from z6]
  refine x_iload dL_law_447 rfl ?_
  refine x_icmp_eq (tgt := 454) dL_law_449 (by decide) (fun c449 => ?_) (fun c449 => ?_)
  · refine x_iload dL_law_454 rfl ?_
    refine x_if_ne (tgt := 471) dL_law_456 (by decide) (fun c456 => ?_) (fun c456 => ?_)
    · refine x_goto (tgt := 1702) dL_law_471 (by decide) ?_
      refine x_ls [(0, .ref b), (1, .ref x), (2, .ref (x + 255)), (3, .ref (x + 269)), (4, .int (nI (6 * k)))] ⟨rfl, rfl, rfl, rfl, rfl, trivial⟩ ?_
      exact hq _ _ _ _ (by show kk - 4 ≤ kk - 2 - 0 - 0; omega) (by show nn - 32 ≤ nn - 12 - 0 - 0; omega) (LwI_next hI hR5 hF5 hM6 hf6 (by omega))
    · have h0 : (aCharger (S, n, ρ, L, K) (xs (6 * k + 1)) (xs (6 * k + 2))).1 = 0 := (nI_z ab_charger).mp c456
      have v6 := v6 h0
      subst v6
      have ko9 : gK (wI C5 f6) (x + 269) = 24 := (hF5.2 _ (by omega) (by omega)).1.trans ko
      have no9 : gN (wI C5 f6) (x + 269) = 1 := (hF5.2 _ (by omega) (by omega)).2.1.trans no
      refine x_aload_n dL_law_459 rfl ?_
      refine x_iconst (v := nI 0) dL_law_460 (by decide) ?_
      refine x_lald 0 1 hO dL_law_461 ko9 rfl no9 (by decide) (by decide) ?_
      rw [show gJ (wI C5 f6) (x + 269) 0 = (aCharger (S, n, ρ, L, K) (xs (6 * k + 1)) (xs (6 * k + 2))).2.1.toInt64 from hJ5 h0]
      refine x_iload dL_law_462 rfl ?_
      refine x_i2l dL_law_464 ?_
      refine x_lcmp dL_law_465 ?_
      refine x_if_eq (tgt := 471) dL_law_466 (by decide) (fun c466 => ?_) (fun c466 => ?_)
      · refine x_goto (tgt := 1702) dL_law_471 (by decide) ?_
        refine x_ls [(0, .ref b), (1, .ref x), (2, .ref (x + 255)), (3, .ref (x + 269)), (4, .int (nI (6 * k)))] ⟨rfl, rfl, rfl, rfl, rfl, trivial⟩ ?_
        exact hq _ _ _ _ (by show kk - 4 ≤ kk - 2 - 0 - 0; omega) (by show nn - 32 ≤ nn - 12 - 0 - 0; omega) (LwI_next hI hR5 hF5 hM6 hf6 (by omega))
      · exact absurd lg_self c466
  · exact absurd rfl c449

theorem lc_sign {nm : String} {G : GT} {C : AH} {Q : QT} {sa va : Nat → Nat} {x b N T k kk nn : Nat} {xs : Nat → Int32} {s : St} (hO : GO G) (hX : GX G sa va) (hN : GN G) (hb : eT G .int b N (fun j => .int (xs j))) (hT : T ≤ 39000) (h6 : 6000 ≤ T) (hI : LwI C x T s) (hk : 6 * k + 6 ≤ N) (hL : N ≤ 3072) (hkk : 4 ≤ kk) (hnn : 32 ≤ nn) (hq : ∀ (C' : AH) (s' : St) (k' n' : Nat), kk - 4 ≤ k' → nn - 32 ≤ n' → LwI C' x (T + 48) s' → Ex G (M_law nm) Q NX k' n' 1702 [(0, .ref b), (1, .ref x), (2, .ref (x + 255)), (3, .ref (x + 269)), (4, .int (nI (6 * k)))] [] C') : Ex G (M_law nm) Q NX kk nn 474 [(0, .ref b), (1, .ref x), (2, .ref (x + 255)), (3, .ref (x + 269)), (4, .int (nI (6 * k)))] [] C := by
  obtain ⟨S, n, ρ, L, K⟩ := s
  obtain ⟨hR0, hM0, ko, no, hz⟩ := id hI
  refine x_aload_n dL_law_474 rfl ?_
  refine x_aload_n dL_law_475 rfl ?_
  refine x_iload dL_law_476 rfl ?_
  refine x_iconst (v := nI 1) dL_law_478 (by decide) ?_
  refine x_iadd dL_law_479 ?_
  refine x_tald _ hb dL_law_480 (nI_add _ _) (by omega) (by omega) ?_
  refine x_aload_n dL_law_481 rfl ?_
  refine x_iload dL_law_482 rfl ?_
  refine x_iconst (v := nI 2) dL_law_484 (by decide) ?_
  refine x_iadd dL_law_485 ?_
  refine x_tald _ hb dL_law_486 (nI_add _ _) (by omega) (by omega) ?_
  refine x_aload_n dL_law_487 rfl ?_
  refine x_callSX (As := [_, _, _, _]) hO dL_law_488 o_L_sign s_L_sign l_L_126 ⟨Nat.le_of_ble_eq_true rfl, Nat.le_of_ble_eq_true rfl⟩ ⟨(by show 4 ≤ kk; omega), (by show 32 ≤ nn; omega)⟩ rfl rfl (Nat.le_of_ble_eq_true rfl) (l_sign (X := NX) (T := T) hN hO hX (by omega) hR0 ko no (Or.inr (by omega)) (by omega) (fun r5 C5 hR5 hF5 h5 hJ5 => ?_))
  dsimp only [Option.toList, List.cons_append, List.nil_append]
  subst h5
  refine x_istore dL_law_491 (Nat.le_of_ble_eq_true rfl) ?_
  refine x_aload_n dL_law_493 rfl ?_
  refine x_aload_n dL_law_494 rfl ?_
  refine x_iload dL_law_495 rfl ?_
  refine x_iconst (v := nI 1) dL_law_497 (by decide) ?_
  refine x_iadd dL_law_498 ?_
  refine x_tald _ hb dL_law_499 (nI_add _ _) (by omega) (by omega) ?_
  refine x_aload_n dL_law_500 rfl ?_
  refine x_iload dL_law_501 rfl ?_
  refine x_iconst (v := nI 2) dL_law_503 (by decide) ?_
  refine x_iadd dL_law_504 ?_
  refine x_tald _ hb dL_law_505 (nI_add _ _) (by omega) (by omega) ?_
  refine x_callV (As := [_, _]) 7 hO dL_law_506 o_X5_sign v_X5_sign l_L_128 ⟨Nat.le_of_ble_eq_true rfl, Nat.le_of_ble_eq_true rfl⟩ ((hF5.2 _ (by omega) (by omega)).1.trans hM0.2.1.1) ⟨Nat.le_of_ble_eq_true rfl, Nat.le_of_ble_eq_true rfl⟩ rfl ⟨Nat.zero_le _, Nat.zero_le _⟩ rfl rfl (Nat.le_of_ble_eq_true rfl) (r_sign (C := C5) (T := T) hO (by omega) (RM_L hM0 hF5 (Nat.le_refl _) (by omega)) (fun r6 f6 hM6 hf6 z6 v6 => ?_))
  dsimp only [Option.toList, List.cons_append, List.nil_append]
  refine x_istore dL_law_509 (Nat.le_of_ble_eq_true rfl) ?_
  refine x_aload_n dL_law_511 rfl ?_
  refine x_callV (As := []) 7 hO dL_law_512 o_X5_thrown v_X5_thrown l_L_101 ⟨Nat.le_of_ble_eq_true rfl, Nat.le_of_ble_eq_true rfl⟩ hM6.2.1.1 ⟨Nat.le_of_ble_eq_true rfl, Nat.le_of_ble_eq_true rfl⟩ rfl ⟨Nat.zero_le _, Nat.zero_le _⟩ rfl rfl (Nat.le_of_ble_eq_true rfl) (r_thrown hO hM6.2.1 ?_)
  dsimp only [Option.toList, List.cons_append, List.nil_append]
  rw [show gI (wI C5 f6) (x + 255) 0 = nI (aSign (S, n, ρ, L, K) (xs (6 * k + 1)) (xs (6 * k + 2))).1 from z6]
  refine x_iload dL_law_515 rfl ?_
  refine x_icmp_eq (tgt := 522) dL_law_517 (by decide) (fun c517 => ?_) (fun c517 => ?_)
  · refine x_iload dL_law_522 rfl ?_
    refine x_if_ne (tgt := 539) dL_law_524 (by decide) (fun c524 => ?_) (fun c524 => ?_)
    · refine x_goto (tgt := 1702) dL_law_539 (by decide) ?_
      refine x_ls [(0, .ref b), (1, .ref x), (2, .ref (x + 255)), (3, .ref (x + 269)), (4, .int (nI (6 * k)))] ⟨rfl, rfl, rfl, rfl, rfl, trivial⟩ ?_
      exact hq _ _ _ _ (by show kk - 4 ≤ kk - 4 - 0 - 0; omega) (by show nn - 32 ≤ nn - 32 - 0 - 0; omega) (LwI_next hI hR5 hF5 hM6 hf6 (by omega))
    · have h0 : (aSign (S, n, ρ, L, K) (xs (6 * k + 1)) (xs (6 * k + 2))).1 = 0 := (nI_z ab_sign).mp c524
      have v6 := v6 h0
      subst v6
      have ko9 : gK (wI C5 f6) (x + 269) = 24 := (hF5.2 _ (by omega) (by omega)).1.trans ko
      have no9 : gN (wI C5 f6) (x + 269) = 1 := (hF5.2 _ (by omega) (by omega)).2.1.trans no
      refine x_aload_n dL_law_527 rfl ?_
      refine x_iconst (v := nI 0) dL_law_528 (by decide) ?_
      refine x_lald 0 1 hO dL_law_529 ko9 rfl no9 (by decide) (by decide) ?_
      rw [show gJ (wI C5 f6) (x + 269) 0 = (aSign (S, n, ρ, L, K) (xs (6 * k + 1)) (xs (6 * k + 2))).2.1.toInt64 from hJ5 h0]
      refine x_iload dL_law_530 rfl ?_
      refine x_i2l dL_law_532 ?_
      refine x_lcmp dL_law_533 ?_
      refine x_if_eq (tgt := 539) dL_law_534 (by decide) (fun c534 => ?_) (fun c534 => ?_)
      · refine x_goto (tgt := 1702) dL_law_539 (by decide) ?_
        refine x_ls [(0, .ref b), (1, .ref x), (2, .ref (x + 255)), (3, .ref (x + 269)), (4, .int (nI (6 * k)))] ⟨rfl, rfl, rfl, rfl, rfl, trivial⟩ ?_
        exact hq _ _ _ _ (by show kk - 4 ≤ kk - 4 - 0 - 0; omega) (by show nn - 32 ≤ nn - 32 - 0 - 0; omega) (LwI_next hI hR5 hF5 hM6 hf6 (by omega))
      · exact absurd lg_self c534
  · exact absurd rfl c517

theorem lc_setting {nm : String} {G : GT} {C : AH} {Q : QT} {sa va : Nat → Nat} {x b N T k kk nn : Nat} {xs : Nat → Int32} {s : St} (hO : GO G) (hX : GX G sa va) (hN : GN G) (hb : eT G .int b N (fun j => .int (xs j))) (hT : T ≤ 39000) (h6 : 6000 ≤ T) (hI : LwI C x T s) (hk : 6 * k + 6 ≤ N) (hL : N ≤ 3072) (hkk : 4 ≤ kk) (hnn : 32 ≤ nn) (hq : ∀ (C' : AH) (s' : St) (k' n' : Nat), kk - 4 ≤ k' → nn - 32 ≤ n' → LwI C' x (T + 48) s' → Ex G (M_law nm) Q NX k' n' 1702 [(0, .ref b), (1, .ref x), (2, .ref (x + 255)), (3, .ref (x + 269)), (4, .int (nI (6 * k)))] [] C') : Ex G (M_law nm) Q NX kk nn 542 [(0, .ref b), (1, .ref x), (2, .ref (x + 255)), (3, .ref (x + 269)), (4, .int (nI (6 * k)))] [] C := by
  obtain ⟨S, n, ρ, L, K⟩ := s
  obtain ⟨hR0, hM0, ko, no, hz⟩ := id hI
  refine x_aload_n dL_law_542 rfl ?_
  refine x_aload_n dL_law_543 rfl ?_
  refine x_iload dL_law_544 rfl ?_
  refine x_iconst (v := nI 1) dL_law_546 (by decide) ?_
  refine x_iadd dL_law_547 ?_
  refine x_tald _ hb dL_law_548 (nI_add _ _) (by omega) (by omega) ?_
  refine x_aload_n dL_law_549 rfl ?_
  refine x_callSX (As := [_, _, _]) hO dL_law_550 o_L_setting s_L_setting l_L_129 ⟨Nat.le_of_ble_eq_true rfl, Nat.le_of_ble_eq_true rfl⟩ ⟨(by show 1 ≤ kk; omega), (by show 6 ≤ nn; omega)⟩ rfl rfl (Nat.le_of_ble_eq_true rfl) (l_setting (X := NX) (T := T) hN hO hX (by omega) hR0 ko no (Or.inr (by omega)) (by omega) (fun r5 C5 hR5 hF5 h5 hJ5 => ?_))
  dsimp only [Option.toList, List.cons_append, List.nil_append]
  subst h5
  refine x_istore dL_law_553 (Nat.le_of_ble_eq_true rfl) ?_
  refine x_aload_n dL_law_555 rfl ?_
  refine x_aload_n dL_law_556 rfl ?_
  refine x_iload dL_law_557 rfl ?_
  refine x_iconst (v := nI 1) dL_law_559 (by decide) ?_
  refine x_iadd dL_law_560 ?_
  refine x_tald _ hb dL_law_561 (nI_add _ _) (by omega) (by omega) ?_
  refine x_callV (As := [_]) 7 hO dL_law_562 o_X5_setting v_X5_setting l_L_131 ⟨Nat.le_of_ble_eq_true rfl, Nat.le_of_ble_eq_true rfl⟩ ((hF5.2 _ (by omega) (by omega)).1.trans hM0.2.1.1) ⟨Nat.le_of_ble_eq_true rfl, Nat.le_of_ble_eq_true rfl⟩ rfl ⟨Nat.zero_le _, Nat.zero_le _⟩ rfl rfl (Nat.le_of_ble_eq_true rfl) (r_setting (C := C5) (T := T) hO (by omega) (RM_L hM0 hF5 (Nat.le_refl _) (by omega)) (fun r6 f6 hM6 hf6 z6 v6 => ?_))
  dsimp only [Option.toList, List.cons_append, List.nil_append]
  refine x_istore dL_law_565 (Nat.le_of_ble_eq_true rfl) ?_
  refine x_aload_n dL_law_567 rfl ?_
  refine x_callV (As := []) 7 hO dL_law_568 o_X5_thrown v_X5_thrown l_L_101 ⟨Nat.le_of_ble_eq_true rfl, Nat.le_of_ble_eq_true rfl⟩ hM6.2.1.1 ⟨Nat.le_of_ble_eq_true rfl, Nat.le_of_ble_eq_true rfl⟩ rfl ⟨Nat.zero_le _, Nat.zero_le _⟩ rfl rfl (Nat.le_of_ble_eq_true rfl) (r_thrown hO hM6.2.1 ?_)
  dsimp only [Option.toList, List.cons_append, List.nil_append]
  rw [show gI (wI C5 f6) (x + 255) 0 = nI (aSetting (S, n, ρ, L, K) (xs (6 * k + 1))).1 from z6]
  refine x_iload dL_law_571 rfl ?_
  refine x_icmp_eq (tgt := 578) dL_law_573 (by decide) (fun c573 => ?_) (fun c573 => ?_)
  · refine x_iload dL_law_578 rfl ?_
    refine x_if_ne (tgt := 595) dL_law_580 (by decide) (fun c580 => ?_) (fun c580 => ?_)
    · refine x_goto (tgt := 1702) dL_law_595 (by decide) ?_
      refine x_ls [(0, .ref b), (1, .ref x), (2, .ref (x + 255)), (3, .ref (x + 269)), (4, .int (nI (6 * k)))] ⟨rfl, rfl, rfl, rfl, rfl, trivial⟩ ?_
      exact hq _ _ _ _ (by show kk - 4 ≤ kk - 1 - 0 - 0; omega) (by show nn - 32 ≤ nn - 6 - 0 - 0; omega) (LwI_next hI hR5 hF5 hM6 hf6 (by omega))
    · have h0 : (aSetting (S, n, ρ, L, K) (xs (6 * k + 1))).1 = 0 := (nI_z ab_setting).mp c580
      have v6 := v6 h0
      subst v6
      have ko9 : gK (wI C5 f6) (x + 269) = 24 := (hF5.2 _ (by omega) (by omega)).1.trans ko
      have no9 : gN (wI C5 f6) (x + 269) = 1 := (hF5.2 _ (by omega) (by omega)).2.1.trans no
      refine x_aload_n dL_law_583 rfl ?_
      refine x_iconst (v := nI 0) dL_law_584 (by decide) ?_
      refine x_lald 0 1 hO dL_law_585 ko9 rfl no9 (by decide) (by decide) ?_
      rw [show gJ (wI C5 f6) (x + 269) 0 = (aSetting (S, n, ρ, L, K) (xs (6 * k + 1))).2.1.toInt64 from hJ5 h0]
      refine x_iload dL_law_586 rfl ?_
      refine x_i2l dL_law_588 ?_
      refine x_lcmp dL_law_589 ?_
      refine x_if_eq (tgt := 595) dL_law_590 (by decide) (fun c590 => ?_) (fun c590 => ?_)
      · refine x_goto (tgt := 1702) dL_law_595 (by decide) ?_
        refine x_ls [(0, .ref b), (1, .ref x), (2, .ref (x + 255)), (3, .ref (x + 269)), (4, .int (nI (6 * k)))] ⟨rfl, rfl, rfl, rfl, rfl, trivial⟩ ?_
        exact hq _ _ _ _ (by show kk - 4 ≤ kk - 1 - 0 - 0; omega) (by show nn - 32 ≤ nn - 6 - 0 - 0; omega) (LwI_next hI hR5 hF5 hM6 hf6 (by omega))
      · exact absurd lg_self c590
  · exact absurd rfl c573

theorem lc_addBus {nm : String} {G : GT} {C : AH} {Q : QT} {sa va : Nat → Nat} {x b N T k kk nn : Nat} {xs : Nat → Int32} {s : St} (hO : GO G) (hX : GX G sa va) (hN : GN G) (hb : eT G .int b N (fun j => .int (xs j))) (hT : T ≤ 39000) (h6 : 6000 ≤ T) (hI : LwI C x T s) (hk : 6 * k + 6 ≤ N) (hL : N ≤ 3072) (hkk : 4 ≤ kk) (hnn : 32 ≤ nn) (hq : ∀ (C' : AH) (s' : St) (k' n' : Nat), kk - 4 ≤ k' → nn - 32 ≤ n' → LwI C' x (T + 48) s' → Ex G (M_law nm) Q NX k' n' 1702 [(0, .ref b), (1, .ref x), (2, .ref (x + 255)), (3, .ref (x + 269)), (4, .int (nI (6 * k)))] [] C') : Ex G (M_law nm) Q NX kk nn 598 [(0, .ref b), (1, .ref x), (2, .ref (x + 255)), (3, .ref (x + 269)), (4, .int (nI (6 * k)))] [] C := by
  obtain ⟨S, n, ρ, L, K⟩ := s
  obtain ⟨hR0, hM0, ko, no, hz⟩ := id hI
  refine x_aload_n dL_law_598 rfl ?_
  refine x_aload_n dL_law_599 rfl ?_
  refine x_iload dL_law_600 rfl ?_
  refine x_iconst (v := nI 1) dL_law_602 (by decide) ?_
  refine x_iadd dL_law_603 ?_
  refine x_tald _ hb dL_law_604 (nI_add _ _) (by omega) (by omega) ?_
  refine x_aload_n dL_law_605 rfl ?_
  refine x_iload dL_law_606 rfl ?_
  refine x_iconst (v := nI 2) dL_law_608 (by decide) ?_
  refine x_iadd dL_law_609 ?_
  refine x_tald _ hb dL_law_610 (nI_add _ _) (by omega) (by omega) ?_
  refine x_aload_n dL_law_611 rfl ?_
  refine x_iload dL_law_612 rfl ?_
  refine x_iconst (v := nI 3) dL_law_614 (by decide) ?_
  refine x_iadd dL_law_615 ?_
  refine x_tald _ hb dL_law_616 (nI_add _ _) (by omega) (by omega) ?_
  refine x_aload_n dL_law_617 rfl ?_
  refine x_iload dL_law_618 rfl ?_
  refine x_iconst (v := nI 4) dL_law_620 (by decide) ?_
  refine x_iadd dL_law_621 ?_
  refine x_tald _ hb dL_law_622 (nI_add _ _) (by omega) (by omega) ?_
  refine x_aload_n dL_law_623 rfl ?_
  refine x_iload dL_law_624 rfl ?_
  refine x_iconst (v := nI 5) dL_law_626 (by decide) ?_
  refine x_iadd dL_law_627 ?_
  refine x_tald _ hb dL_law_628 (nI_add _ _) (by omega) (by omega) ?_
  refine x_aload_n dL_law_629 rfl ?_
  refine x_callSX (As := [_, _, _, _, _, _, _]) hO dL_law_630 o_L_addBus s_L_addBus l_L_132 ⟨Nat.le_of_ble_eq_true rfl, Nat.le_of_ble_eq_true rfl⟩ ⟨(by show 2 ≤ kk; omega), (by show 12 ≤ nn; omega)⟩ rfl rfl (Nat.le_of_ble_eq_true rfl) (l_addBus (X := NX) (T := T) hN hO hX (by omega) hR0 ko no (Or.inr (by omega)) (by omega) (fun r5 C5 hR5 hF5 h5 hJ5 => ?_))
  dsimp only [Option.toList, List.cons_append, List.nil_append]
  subst h5
  refine x_istore dL_law_633 (Nat.le_of_ble_eq_true rfl) ?_
  refine x_aload_n dL_law_635 rfl ?_
  refine x_aload_n dL_law_636 rfl ?_
  refine x_iload dL_law_637 rfl ?_
  refine x_iconst (v := nI 1) dL_law_639 (by decide) ?_
  refine x_iadd dL_law_640 ?_
  refine x_tald _ hb dL_law_641 (nI_add _ _) (by omega) (by omega) ?_
  refine x_aload_n dL_law_642 rfl ?_
  refine x_iload dL_law_643 rfl ?_
  refine x_iconst (v := nI 2) dL_law_645 (by decide) ?_
  refine x_iadd dL_law_646 ?_
  refine x_tald _ hb dL_law_647 (nI_add _ _) (by omega) (by omega) ?_
  refine x_aload_n dL_law_648 rfl ?_
  refine x_iload dL_law_649 rfl ?_
  refine x_iconst (v := nI 3) dL_law_651 (by decide) ?_
  refine x_iadd dL_law_652 ?_
  refine x_tald _ hb dL_law_653 (nI_add _ _) (by omega) (by omega) ?_
  refine x_aload_n dL_law_654 rfl ?_
  refine x_iload dL_law_655 rfl ?_
  refine x_iconst (v := nI 4) dL_law_657 (by decide) ?_
  refine x_iadd dL_law_658 ?_
  refine x_tald _ hb dL_law_659 (nI_add _ _) (by omega) (by omega) ?_
  refine x_aload_n dL_law_660 rfl ?_
  refine x_iload dL_law_661 rfl ?_
  refine x_iconst (v := nI 5) dL_law_663 (by decide) ?_
  refine x_iadd dL_law_664 ?_
  refine x_tald _ hb dL_law_665 (nI_add _ _) (by omega) (by omega) ?_
  refine x_callV (As := [_, _, _, _, _]) 7 hO dL_law_666 o_X5_addBus v_X5_addBus l_L_135 ⟨Nat.le_of_ble_eq_true rfl, Nat.le_of_ble_eq_true rfl⟩ ((hF5.2 _ (by omega) (by omega)).1.trans hM0.2.1.1) ⟨Nat.le_of_ble_eq_true rfl, Nat.le_of_ble_eq_true rfl⟩ rfl ⟨Nat.zero_le _, Nat.zero_le _⟩ rfl rfl (Nat.le_of_ble_eq_true rfl) (r_addBus (C := C5) (T := T) hO (by omega) (RM_L hM0 hF5 (Nat.le_refl _) (by omega)) (fun r6 f6 hM6 hf6 z6 v6 => ?_))
  dsimp only [Option.toList, List.cons_append, List.nil_append]
  refine x_istore dL_law_669 (Nat.le_of_ble_eq_true rfl) ?_
  refine x_aload_n dL_law_671 rfl ?_
  refine x_callV (As := []) 7 hO dL_law_672 o_X5_thrown v_X5_thrown l_L_101 ⟨Nat.le_of_ble_eq_true rfl, Nat.le_of_ble_eq_true rfl⟩ hM6.2.1.1 ⟨Nat.le_of_ble_eq_true rfl, Nat.le_of_ble_eq_true rfl⟩ rfl ⟨Nat.zero_le _, Nat.zero_le _⟩ rfl rfl (Nat.le_of_ble_eq_true rfl) (r_thrown hO hM6.2.1 ?_)
  dsimp only [Option.toList, List.cons_append, List.nil_append]
  rw [show gI (wI C5 f6) (x + 255) 0 = nI (aAddBus (S, n, ρ, L, K) (xs (6 * k + 1)) (xs (6 * k + 2)) (xs (6 * k + 3)) (xs (6 * k + 4)) (xs (6 * k + 5))).1 from z6]
  refine x_iload dL_law_675 rfl ?_
  refine x_icmp_eq (tgt := 682) dL_law_677 (by decide) (fun c677 => ?_) (fun c677 => ?_)
  · refine x_iload dL_law_682 rfl ?_
    refine x_if_ne (tgt := 699) dL_law_684 (by decide) (fun c684 => ?_) (fun c684 => ?_)
    · refine x_goto (tgt := 1702) dL_law_699 (by decide) ?_
      refine x_ls [(0, .ref b), (1, .ref x), (2, .ref (x + 255)), (3, .ref (x + 269)), (4, .int (nI (6 * k)))] ⟨rfl, rfl, rfl, rfl, rfl, trivial⟩ ?_
      exact hq _ _ _ _ (by show kk - 4 ≤ kk - 2 - 0 - 0; omega) (by show nn - 32 ≤ nn - 12 - 0 - 0; omega) (LwI_next hI hR5 hF5 hM6 hf6 (by omega))
    · have h0 : (aAddBus (S, n, ρ, L, K) (xs (6 * k + 1)) (xs (6 * k + 2)) (xs (6 * k + 3)) (xs (6 * k + 4)) (xs (6 * k + 5))).1 = 0 := (nI_z ab_addBus).mp c684
      have v6 := v6 h0
      subst v6
      have ko9 : gK (wI C5 f6) (x + 269) = 24 := (hF5.2 _ (by omega) (by omega)).1.trans ko
      have no9 : gN (wI C5 f6) (x + 269) = 1 := (hF5.2 _ (by omega) (by omega)).2.1.trans no
      refine x_aload_n dL_law_687 rfl ?_
      refine x_iconst (v := nI 0) dL_law_688 (by decide) ?_
      refine x_lald 0 1 hO dL_law_689 ko9 rfl no9 (by decide) (by decide) ?_
      rw [show gJ (wI C5 f6) (x + 269) 0 = (aAddBus (S, n, ρ, L, K) (xs (6 * k + 1)) (xs (6 * k + 2)) (xs (6 * k + 3)) (xs (6 * k + 4)) (xs (6 * k + 5))).2.1.toInt64 from hJ5 h0]
      refine x_iload dL_law_690 rfl ?_
      refine x_i2l dL_law_692 ?_
      refine x_lcmp dL_law_693 ?_
      refine x_if_eq (tgt := 699) dL_law_694 (by decide) (fun c694 => ?_) (fun c694 => ?_)
      · refine x_goto (tgt := 1702) dL_law_699 (by decide) ?_
        refine x_ls [(0, .ref b), (1, .ref x), (2, .ref (x + 255)), (3, .ref (x + 269)), (4, .int (nI (6 * k)))] ⟨rfl, rfl, rfl, rfl, rfl, trivial⟩ ?_
        exact hq _ _ _ _ (by show kk - 4 ≤ kk - 2 - 0 - 0; omega) (by show nn - 32 ≤ nn - 12 - 0 - 0; omega) (LwI_next hI hR5 hF5 hM6 hf6 (by omega))
      · exact absurd lg_self c694
  · exact absurd rfl c677

theorem lc_addCharger {nm : String} {G : GT} {C : AH} {Q : QT} {sa va : Nat → Nat} {x b N T k kk nn : Nat} {xs : Nat → Int32} {s : St} (hO : GO G) (hX : GX G sa va) (hN : GN G) (hb : eT G .int b N (fun j => .int (xs j))) (hT : T ≤ 39000) (h6 : 6000 ≤ T) (hI : LwI C x T s) (hk : 6 * k + 6 ≤ N) (hL : N ≤ 3072) (hkk : 4 ≤ kk) (hnn : 32 ≤ nn) (hq : ∀ (C' : AH) (s' : St) (k' n' : Nat), kk - 4 ≤ k' → nn - 32 ≤ n' → LwI C' x (T + 48) s' → Ex G (M_law nm) Q NX k' n' 1702 [(0, .ref b), (1, .ref x), (2, .ref (x + 255)), (3, .ref (x + 269)), (4, .int (nI (6 * k)))] [] C') : Ex G (M_law nm) Q NX kk nn 702 [(0, .ref b), (1, .ref x), (2, .ref (x + 255)), (3, .ref (x + 269)), (4, .int (nI (6 * k)))] [] C := by
  obtain ⟨S, n, ρ, L, K⟩ := s
  obtain ⟨hR0, hM0, ko, no, hz⟩ := id hI
  refine x_aload_n dL_law_702 rfl ?_
  refine x_aload_n dL_law_703 rfl ?_
  refine x_iload dL_law_704 rfl ?_
  refine x_iconst (v := nI 1) dL_law_706 (by decide) ?_
  refine x_iadd dL_law_707 ?_
  refine x_tald _ hb dL_law_708 (nI_add _ _) (by omega) (by omega) ?_
  refine x_aload_n dL_law_709 rfl ?_
  refine x_callSX (As := [_, _, _]) hO dL_law_710 o_L_addCharger s_L_addCharger l_L_136 ⟨Nat.le_of_ble_eq_true rfl, Nat.le_of_ble_eq_true rfl⟩ ⟨(by show 2 ≤ kk; omega), (by show 12 ≤ nn; omega)⟩ rfl rfl (Nat.le_of_ble_eq_true rfl) (l_addCharger (X := NX) (T := T) hN hO hX (by omega) hR0 ko no (Or.inr (by omega)) (by omega) (fun r5 C5 hR5 hF5 h5 hJ5 => ?_))
  dsimp only [Option.toList, List.cons_append, List.nil_append]
  subst h5
  refine x_istore dL_law_713 (Nat.le_of_ble_eq_true rfl) ?_
  refine x_aload_n dL_law_715 rfl ?_
  refine x_aload_n dL_law_716 rfl ?_
  refine x_iload dL_law_717 rfl ?_
  refine x_iconst (v := nI 1) dL_law_719 (by decide) ?_
  refine x_iadd dL_law_720 ?_
  refine x_tald _ hb dL_law_721 (nI_add _ _) (by omega) (by omega) ?_
  refine x_callV (As := [_]) 7 hO dL_law_722 o_X5_addCharger v_X5_addCharger l_L_138 ⟨Nat.le_of_ble_eq_true rfl, Nat.le_of_ble_eq_true rfl⟩ ((hF5.2 _ (by omega) (by omega)).1.trans hM0.2.1.1) ⟨Nat.le_of_ble_eq_true rfl, Nat.le_of_ble_eq_true rfl⟩ rfl ⟨Nat.zero_le _, Nat.zero_le _⟩ rfl rfl (Nat.le_of_ble_eq_true rfl) (r_addCharger (C := C5) (T := T) hO (by omega) (RM_L hM0 hF5 (Nat.le_refl _) (by omega)) (fun r6 f6 hM6 hf6 z6 v6 => ?_))
  dsimp only [Option.toList, List.cons_append, List.nil_append]
  refine x_istore dL_law_725 (Nat.le_of_ble_eq_true rfl) ?_
  refine x_aload_n dL_law_727 rfl ?_
  refine x_callV (As := []) 7 hO dL_law_728 o_X5_thrown v_X5_thrown l_L_101 ⟨Nat.le_of_ble_eq_true rfl, Nat.le_of_ble_eq_true rfl⟩ hM6.2.1.1 ⟨Nat.le_of_ble_eq_true rfl, Nat.le_of_ble_eq_true rfl⟩ rfl ⟨Nat.zero_le _, Nat.zero_le _⟩ rfl rfl (Nat.le_of_ble_eq_true rfl) (r_thrown hO hM6.2.1 ?_)
  dsimp only [Option.toList, List.cons_append, List.nil_append]
  rw [show gI (wI C5 f6) (x + 255) 0 = nI (aAddC (S, n, ρ, L, K) (xs (6 * k + 1))).1 from z6]
  refine x_iload dL_law_731 rfl ?_
  refine x_icmp_eq (tgt := 738) dL_law_733 (by decide) (fun c733 => ?_) (fun c733 => ?_)
  · refine x_iload dL_law_738 rfl ?_
    refine x_if_ne (tgt := 755) dL_law_740 (by decide) (fun c740 => ?_) (fun c740 => ?_)
    · refine x_goto (tgt := 1702) dL_law_755 (by decide) ?_
      refine x_ls [(0, .ref b), (1, .ref x), (2, .ref (x + 255)), (3, .ref (x + 269)), (4, .int (nI (6 * k)))] ⟨rfl, rfl, rfl, rfl, rfl, trivial⟩ ?_
      exact hq _ _ _ _ (by show kk - 4 ≤ kk - 2 - 0 - 0; omega) (by show nn - 32 ≤ nn - 12 - 0 - 0; omega) (LwI_next hI hR5 hF5 hM6 hf6 (by omega))
    · have h0 : (aAddC (S, n, ρ, L, K) (xs (6 * k + 1))).1 = 0 := (nI_z ab_addCharger).mp c740
      have v6 := v6 h0
      subst v6
      have ko9 : gK (wI C5 f6) (x + 269) = 24 := (hF5.2 _ (by omega) (by omega)).1.trans ko
      have no9 : gN (wI C5 f6) (x + 269) = 1 := (hF5.2 _ (by omega) (by omega)).2.1.trans no
      refine x_aload_n dL_law_743 rfl ?_
      refine x_iconst (v := nI 0) dL_law_744 (by decide) ?_
      refine x_lald 0 1 hO dL_law_745 ko9 rfl no9 (by decide) (by decide) ?_
      rw [show gJ (wI C5 f6) (x + 269) 0 = (aAddC (S, n, ρ, L, K) (xs (6 * k + 1))).2.1.toInt64 from hJ5 h0]
      refine x_iload dL_law_746 rfl ?_
      refine x_i2l dL_law_748 ?_
      refine x_lcmp dL_law_749 ?_
      refine x_if_eq (tgt := 755) dL_law_750 (by decide) (fun c750 => ?_) (fun c750 => ?_)
      · refine x_goto (tgt := 1702) dL_law_755 (by decide) ?_
        refine x_ls [(0, .ref b), (1, .ref x), (2, .ref (x + 255)), (3, .ref (x + 269)), (4, .int (nI (6 * k)))] ⟨rfl, rfl, rfl, rfl, rfl, trivial⟩ ?_
        exact hq _ _ _ _ (by show kk - 4 ≤ kk - 2 - 0 - 0; omega) (by show nn - 32 ≤ nn - 12 - 0 - 0; omega) (LwI_next hI hR5 hF5 hM6 hf6 (by omega))
      · exact absurd lg_self c750
  · exact absurd rfl c733

theorem lc_route {nm : String} {G : GT} {C : AH} {Q : QT} {sa va : Nat → Nat} {x b N T k kk nn : Nat} {xs : Nat → Int32} {s : St} (hO : GO G) (hX : GX G sa va) (hN : GN G) (hb : eT G .int b N (fun j => .int (xs j))) (hT : T ≤ 39000) (h6 : 6000 ≤ T) (hI : LwI C x T s) (hk : 6 * k + 6 ≤ N) (hL : N ≤ 3072) (hkk : 4 ≤ kk) (hnn : 32 ≤ nn) (hq : ∀ (C' : AH) (s' : St) (k' n' : Nat), kk - 4 ≤ k' → nn - 32 ≤ n' → LwI C' x (T + 48) s' → Ex G (M_law nm) Q NX k' n' 1702 [(0, .ref b), (1, .ref x), (2, .ref (x + 255)), (3, .ref (x + 269)), (4, .int (nI (6 * k)))] [] C') : Ex G (M_law nm) Q NX kk nn 758 [(0, .ref b), (1, .ref x), (2, .ref (x + 255)), (3, .ref (x + 269)), (4, .int (nI (6 * k)))] [] C := by
  obtain ⟨S, n, ρ, L, K⟩ := s
  obtain ⟨hR0, hM0, ko, no, hz⟩ := id hI
  refine x_aload_n dL_law_758 rfl ?_
  refine x_aload_n dL_law_759 rfl ?_
  refine x_iload dL_law_760 rfl ?_
  refine x_iconst (v := nI 1) dL_law_762 (by decide) ?_
  refine x_iadd dL_law_763 ?_
  refine x_tald _ hb dL_law_764 (nI_add _ _) (by omega) (by omega) ?_
  refine x_aload_n dL_law_765 rfl ?_
  refine x_iload dL_law_766 rfl ?_
  refine x_iconst (v := nI 2) dL_law_768 (by decide) ?_
  refine x_iadd dL_law_769 ?_
  refine x_tald _ hb dL_law_770 (nI_add _ _) (by omega) (by omega) ?_
  refine x_aload_n dL_law_771 rfl ?_
  refine x_iload dL_law_772 rfl ?_
  refine x_iconst (v := nI 3) dL_law_774 (by decide) ?_
  refine x_iadd dL_law_775 ?_
  refine x_tald _ hb dL_law_776 (nI_add _ _) (by omega) (by omega) ?_
  refine x_aload_n dL_law_777 rfl ?_
  refine x_iload dL_law_778 rfl ?_
  refine x_iconst (v := nI 4) dL_law_780 (by decide) ?_
  refine x_iadd dL_law_781 ?_
  refine x_tald _ hb dL_law_782 (nI_add _ _) (by omega) (by omega) ?_
  refine x_aload_n dL_law_783 rfl ?_
  refine x_callSX (As := [_, _, _, _, _, _]) hO dL_law_784 o_L_route s_L_route l_L_139 ⟨Nat.le_of_ble_eq_true rfl, Nat.le_of_ble_eq_true rfl⟩ ⟨(by show 3 ≤ kk; omega), (by show 18 ≤ nn; omega)⟩ rfl rfl (Nat.le_of_ble_eq_true rfl) (l_route (X := NX) (T := T) hN hO hX (by omega) hR0 ko no (Or.inr (by omega)) (by omega) (fun r5 C5 hR5 hF5 h5 hJ5 => ?_))
  dsimp only [Option.toList, List.cons_append, List.nil_append]
  subst h5
  refine x_istore dL_law_787 (Nat.le_of_ble_eq_true rfl) ?_
  refine x_aload_n dL_law_789 rfl ?_
  refine x_aload_n dL_law_790 rfl ?_
  refine x_iload dL_law_791 rfl ?_
  refine x_iconst (v := nI 1) dL_law_793 (by decide) ?_
  refine x_iadd dL_law_794 ?_
  refine x_tald _ hb dL_law_795 (nI_add _ _) (by omega) (by omega) ?_
  refine x_aload_n dL_law_796 rfl ?_
  refine x_iload dL_law_797 rfl ?_
  refine x_iconst (v := nI 2) dL_law_799 (by decide) ?_
  refine x_iadd dL_law_800 ?_
  refine x_tald _ hb dL_law_801 (nI_add _ _) (by omega) (by omega) ?_
  refine x_aload_n dL_law_802 rfl ?_
  refine x_iload dL_law_803 rfl ?_
  refine x_iconst (v := nI 3) dL_law_805 (by decide) ?_
  refine x_iadd dL_law_806 ?_
  refine x_tald _ hb dL_law_807 (nI_add _ _) (by omega) (by omega) ?_
  refine x_aload_n dL_law_808 rfl ?_
  refine x_iload dL_law_809 rfl ?_
  refine x_iconst (v := nI 4) dL_law_811 (by decide) ?_
  refine x_iadd dL_law_812 ?_
  refine x_tald _ hb dL_law_813 (nI_add _ _) (by omega) (by omega) ?_
  refine x_callV (As := [_, _, _, _]) 7 hO dL_law_814 o_X5_route v_X5_route l_L_142 ⟨Nat.le_of_ble_eq_true rfl, Nat.le_of_ble_eq_true rfl⟩ ((hF5.2 _ (by omega) (by omega)).1.trans hM0.2.1.1) ⟨Nat.le_of_ble_eq_true rfl, Nat.le_of_ble_eq_true rfl⟩ rfl ⟨Nat.zero_le _, Nat.zero_le _⟩ rfl rfl (Nat.le_of_ble_eq_true rfl) (r_route (C := C5) (T := T) hO (by omega) (RM_L hM0 hF5 (Nat.le_refl _) (by omega)) (fun r6 f6 hM6 hf6 z6 v6 => ?_))
  dsimp only [Option.toList, List.cons_append, List.nil_append]
  refine x_istore dL_law_817 (Nat.le_of_ble_eq_true rfl) ?_
  refine x_aload_n dL_law_819 rfl ?_
  refine x_callV (As := []) 7 hO dL_law_820 o_X5_thrown v_X5_thrown l_L_101 ⟨Nat.le_of_ble_eq_true rfl, Nat.le_of_ble_eq_true rfl⟩ hM6.2.1.1 ⟨Nat.le_of_ble_eq_true rfl, Nat.le_of_ble_eq_true rfl⟩ rfl ⟨Nat.zero_le _, Nat.zero_le _⟩ rfl rfl (Nat.le_of_ble_eq_true rfl) (r_thrown hO hM6.2.1 ?_)
  dsimp only [Option.toList, List.cons_append, List.nil_append]
  rw [show gI (wI C5 f6) (x + 255) 0 = nI (aRoute (S, n, ρ, L, K) (xs (6 * k + 1)) (xs (6 * k + 2)) (xs (6 * k + 3)) (xs (6 * k + 4))).1 from z6]
  refine x_iload dL_law_823 rfl ?_
  refine x_icmp_eq (tgt := 830) dL_law_825 (by decide) (fun c825 => ?_) (fun c825 => ?_)
  · refine x_iload dL_law_830 rfl ?_
    refine x_if_ne (tgt := 847) dL_law_832 (by decide) (fun c832 => ?_) (fun c832 => ?_)
    · refine x_goto (tgt := 1702) dL_law_847 (by decide) ?_
      refine x_ls [(0, .ref b), (1, .ref x), (2, .ref (x + 255)), (3, .ref (x + 269)), (4, .int (nI (6 * k)))] ⟨rfl, rfl, rfl, rfl, rfl, trivial⟩ ?_
      exact hq _ _ _ _ (by show kk - 4 ≤ kk - 3 - 0 - 0; omega) (by show nn - 32 ≤ nn - 18 - 0 - 0; omega) (LwI_next hI hR5 hF5 hM6 hf6 (by omega))
    · have h0 : (aRoute (S, n, ρ, L, K) (xs (6 * k + 1)) (xs (6 * k + 2)) (xs (6 * k + 3)) (xs (6 * k + 4))).1 = 0 := (nI_z ab_route).mp c832
      have v6 := v6 h0
      subst v6
      have ko9 : gK (wI C5 f6) (x + 269) = 24 := (hF5.2 _ (by omega) (by omega)).1.trans ko
      have no9 : gN (wI C5 f6) (x + 269) = 1 := (hF5.2 _ (by omega) (by omega)).2.1.trans no
      refine x_aload_n dL_law_835 rfl ?_
      refine x_iconst (v := nI 0) dL_law_836 (by decide) ?_
      refine x_lald 0 1 hO dL_law_837 ko9 rfl no9 (by decide) (by decide) ?_
      rw [show gJ (wI C5 f6) (x + 269) 0 = (aRoute (S, n, ρ, L, K) (xs (6 * k + 1)) (xs (6 * k + 2)) (xs (6 * k + 3)) (xs (6 * k + 4))).2.1.toInt64 from hJ5 h0]
      refine x_iload dL_law_838 rfl ?_
      refine x_i2l dL_law_840 ?_
      refine x_lcmp dL_law_841 ?_
      refine x_if_eq (tgt := 847) dL_law_842 (by decide) (fun c842 => ?_) (fun c842 => ?_)
      · refine x_goto (tgt := 1702) dL_law_847 (by decide) ?_
        refine x_ls [(0, .ref b), (1, .ref x), (2, .ref (x + 255)), (3, .ref (x + 269)), (4, .int (nI (6 * k)))] ⟨rfl, rfl, rfl, rfl, rfl, trivial⟩ ?_
        exact hq _ _ _ _ (by show kk - 4 ≤ kk - 3 - 0 - 0; omega) (by show nn - 32 ≤ nn - 18 - 0 - 0; omega) (LwI_next hI hR5 hF5 hM6 hf6 (by omega))
      · exact absurd lg_self c842
  · exact absurd rfl c825

theorem lc_battery {nm : String} {G : GT} {C : AH} {Q : QT} {sa va : Nat → Nat} {x b N T k kk nn : Nat} {xs : Nat → Int32} {s : St} (hO : GO G) (hX : GX G sa va) (hN : GN G) (hb : eT G .int b N (fun j => .int (xs j))) (hT : T ≤ 39000) (h6 : 6000 ≤ T) (hI : LwI C x T s) (hk : 6 * k + 6 ≤ N) (hL : N ≤ 3072) (hkk : 4 ≤ kk) (hnn : 32 ≤ nn) (hq : ∀ (C' : AH) (s' : St) (k' n' : Nat), kk - 4 ≤ k' → nn - 32 ≤ n' → LwI C' x (T + 48) s' → Ex G (M_law nm) Q NX k' n' 1702 [(0, .ref b), (1, .ref x), (2, .ref (x + 255)), (3, .ref (x + 269)), (4, .int (nI (6 * k)))] [] C') : Ex G (M_law nm) Q NX kk nn 850 [(0, .ref b), (1, .ref x), (2, .ref (x + 255)), (3, .ref (x + 269)), (4, .int (nI (6 * k)))] [] C := by
  obtain ⟨S, n, ρ, L, K⟩ := s
  obtain ⟨hR0, hM0, ko, no, hz⟩ := id hI
  refine x_aload_n dL_law_850 rfl ?_
  refine x_aload_n dL_law_851 rfl ?_
  refine x_iload dL_law_852 rfl ?_
  refine x_iconst (v := nI 1) dL_law_854 (by decide) ?_
  refine x_iadd dL_law_855 ?_
  refine x_tald _ hb dL_law_856 (nI_add _ _) (by omega) (by omega) ?_
  refine x_aload_n dL_law_857 rfl ?_
  refine x_iload dL_law_858 rfl ?_
  refine x_iconst (v := nI 2) dL_law_860 (by decide) ?_
  refine x_iadd dL_law_861 ?_
  refine x_tald _ hb dL_law_862 (nI_add _ _) (by omega) (by omega) ?_
  refine x_aload_n dL_law_863 rfl ?_
  refine x_callSX (As := [_, _, _, _]) hO dL_law_864 o_L_battery s_L_battery l_L_143 ⟨Nat.le_of_ble_eq_true rfl, Nat.le_of_ble_eq_true rfl⟩ ⟨(by show 3 ≤ kk; omega), (by show 18 ≤ nn; omega)⟩ rfl rfl (Nat.le_of_ble_eq_true rfl) (l_battery (X := NX) (T := T) hN hO hX (by omega) hR0 ko no (Or.inr (by omega)) (by omega) (fun r5 C5 hR5 hF5 h5 hJ5 => ?_))
  dsimp only [Option.toList, List.cons_append, List.nil_append]
  subst h5
  refine x_istore dL_law_867 (Nat.le_of_ble_eq_true rfl) ?_
  refine x_aload_n dL_law_869 rfl ?_
  refine x_aload_n dL_law_870 rfl ?_
  refine x_iload dL_law_871 rfl ?_
  refine x_iconst (v := nI 1) dL_law_873 (by decide) ?_
  refine x_iadd dL_law_874 ?_
  refine x_tald _ hb dL_law_875 (nI_add _ _) (by omega) (by omega) ?_
  refine x_aload_n dL_law_876 rfl ?_
  refine x_iload dL_law_877 rfl ?_
  refine x_iconst (v := nI 2) dL_law_879 (by decide) ?_
  refine x_iadd dL_law_880 ?_
  refine x_tald _ hb dL_law_881 (nI_add _ _) (by omega) (by omega) ?_
  refine x_callV (As := [_, _]) 7 hO dL_law_882 o_X5_battery v_X5_battery l_L_145 ⟨Nat.le_of_ble_eq_true rfl, Nat.le_of_ble_eq_true rfl⟩ ((hF5.2 _ (by omega) (by omega)).1.trans hM0.2.1.1) ⟨Nat.le_of_ble_eq_true rfl, Nat.le_of_ble_eq_true rfl⟩ rfl ⟨Nat.zero_le _, Nat.zero_le _⟩ rfl rfl (Nat.le_of_ble_eq_true rfl) (r_battery (C := C5) (T := T) hO (by omega) (RM_L hM0 hF5 (Nat.le_refl _) (by omega)) (fun r6 f6 hM6 hf6 z6 v6 => ?_))
  dsimp only [Option.toList, List.cons_append, List.nil_append]
  refine x_istore dL_law_885 (Nat.le_of_ble_eq_true rfl) ?_
  refine x_aload_n dL_law_887 rfl ?_
  refine x_callV (As := []) 7 hO dL_law_888 o_X5_thrown v_X5_thrown l_L_101 ⟨Nat.le_of_ble_eq_true rfl, Nat.le_of_ble_eq_true rfl⟩ hM6.2.1.1 ⟨Nat.le_of_ble_eq_true rfl, Nat.le_of_ble_eq_true rfl⟩ rfl ⟨Nat.zero_le _, Nat.zero_le _⟩ rfl rfl (Nat.le_of_ble_eq_true rfl) (r_thrown hO hM6.2.1 ?_)
  dsimp only [Option.toList, List.cons_append, List.nil_append]
  rw [show gI (wI C5 f6) (x + 255) 0 = nI (aBattery (S, n, ρ, L, K) (xs (6 * k + 1)) (xs (6 * k + 2))).1 from z6]
  refine x_iload dL_law_891 rfl ?_
  refine x_icmp_eq (tgt := 898) dL_law_893 (by decide) (fun c893 => ?_) (fun c893 => ?_)
  · refine x_iload dL_law_898 rfl ?_
    refine x_if_ne (tgt := 915) dL_law_900 (by decide) (fun c900 => ?_) (fun c900 => ?_)
    · refine x_goto (tgt := 1702) dL_law_915 (by decide) ?_
      refine x_ls [(0, .ref b), (1, .ref x), (2, .ref (x + 255)), (3, .ref (x + 269)), (4, .int (nI (6 * k)))] ⟨rfl, rfl, rfl, rfl, rfl, trivial⟩ ?_
      exact hq _ _ _ _ (by show kk - 4 ≤ kk - 3 - 0 - 0; omega) (by show nn - 32 ≤ nn - 18 - 0 - 0; omega) (LwI_next hI hR5 hF5 hM6 hf6 (by omega))
    · have h0 : (aBattery (S, n, ρ, L, K) (xs (6 * k + 1)) (xs (6 * k + 2))).1 = 0 := (nI_z ab_battery).mp c900
      have v6 := v6 h0
      subst v6
      have ko9 : gK (wI C5 f6) (x + 269) = 24 := (hF5.2 _ (by omega) (by omega)).1.trans ko
      have no9 : gN (wI C5 f6) (x + 269) = 1 := (hF5.2 _ (by omega) (by omega)).2.1.trans no
      refine x_aload_n dL_law_903 rfl ?_
      refine x_iconst (v := nI 0) dL_law_904 (by decide) ?_
      refine x_lald 0 1 hO dL_law_905 ko9 rfl no9 (by decide) (by decide) ?_
      rw [show gJ (wI C5 f6) (x + 269) 0 = (aBattery (S, n, ρ, L, K) (xs (6 * k + 1)) (xs (6 * k + 2))).2.1.toInt64 from hJ5 h0]
      refine x_iload dL_law_906 rfl ?_
      refine x_i2l dL_law_908 ?_
      refine x_lcmp dL_law_909 ?_
      refine x_if_eq (tgt := 915) dL_law_910 (by decide) (fun c910 => ?_) (fun c910 => ?_)
      · refine x_goto (tgt := 1702) dL_law_915 (by decide) ?_
        refine x_ls [(0, .ref b), (1, .ref x), (2, .ref (x + 255)), (3, .ref (x + 269)), (4, .int (nI (6 * k)))] ⟨rfl, rfl, rfl, rfl, rfl, trivial⟩ ?_
        exact hq _ _ _ _ (by show kk - 4 ≤ kk - 3 - 0 - 0; omega) (by show nn - 32 ≤ nn - 18 - 0 - 0; omega) (LwI_next hI hR5 hF5 hM6 hf6 (by omega))
      · exact absurd lg_self c910
  · exact absurd rfl c893

theorem lc_run {nm : String} {G : GT} {C : AH} {Q : QT} {sa va : Nat → Nat} {x b N T k kk nn : Nat} {xs : Nat → Int32} {s : St} (hO : GO G) (hX : GX G sa va) (hN : GN G) (hb : eT G .int b N (fun j => .int (xs j))) (hT : T ≤ 39000) (h6 : 6000 ≤ T) (hI : LwI C x T s) (hk : 6 * k + 6 ≤ N) (hL : N ≤ 3072) (hkk : 4 ≤ kk) (hnn : 32 ≤ nn) (hq : ∀ (C' : AH) (s' : St) (k' n' : Nat), kk - 4 ≤ k' → nn - 32 ≤ n' → LwI C' x (T + 48) s' → Ex G (M_law nm) Q NX k' n' 1702 [(0, .ref b), (1, .ref x), (2, .ref (x + 255)), (3, .ref (x + 269)), (4, .int (nI (6 * k)))] [] C') : Ex G (M_law nm) Q NX kk nn 918 [(0, .ref b), (1, .ref x), (2, .ref (x + 255)), (3, .ref (x + 269)), (4, .int (nI (6 * k)))] [] C := by
  obtain ⟨S, n, ρ, L, K⟩ := s
  obtain ⟨hR0, hM0, ko, no, hz⟩ := id hI
  refine x_aload_n dL_law_918 rfl ?_
  refine x_aload_n dL_law_919 rfl ?_
  refine x_iload dL_law_920 rfl ?_
  refine x_iconst (v := nI 1) dL_law_922 (by decide) ?_
  refine x_iadd dL_law_923 ?_
  refine x_tald _ hb dL_law_924 (nI_add _ _) (by omega) (by omega) ?_
  refine x_aload_n dL_law_925 rfl ?_
  refine x_callSX (As := [_, _, _]) hO dL_law_926 o_L_run s_L_run l_L_146 ⟨Nat.le_of_ble_eq_true rfl, Nat.le_of_ble_eq_true rfl⟩ ⟨(by show 1 ≤ kk; omega), (by show 6 ≤ nn; omega)⟩ rfl rfl (Nat.le_of_ble_eq_true rfl) (l_run (X := NX) (T := T) hN hO hX (by omega) hR0 ko no (Or.inr (by omega)) (by omega) (fun r5 C5 hR5 hF5 h5 hJ5 => ?_))
  dsimp only [Option.toList, List.cons_append, List.nil_append]
  subst h5
  refine x_istore dL_law_929 (Nat.le_of_ble_eq_true rfl) ?_
  refine x_aload_n dL_law_931 rfl ?_
  refine x_aload_n dL_law_932 rfl ?_
  refine x_iload dL_law_933 rfl ?_
  refine x_iconst (v := nI 1) dL_law_935 (by decide) ?_
  refine x_iadd dL_law_936 ?_
  refine x_tald _ hb dL_law_937 (nI_add _ _) (by omega) (by omega) ?_
  refine x_callV (As := [_]) 7 hO dL_law_938 o_X5_run v_X5_run l_L_148 ⟨Nat.le_of_ble_eq_true rfl, Nat.le_of_ble_eq_true rfl⟩ ((hF5.2 _ (by omega) (by omega)).1.trans hM0.2.1.1) ⟨Nat.le_of_ble_eq_true rfl, Nat.le_of_ble_eq_true rfl⟩ rfl ⟨Nat.zero_le _, Nat.zero_le _⟩ rfl rfl (Nat.le_of_ble_eq_true rfl) (r_run (C := C5) (T := T) hO (by omega) (RM_L hM0 hF5 (Nat.le_refl _) (by omega)) (fun r6 f6 hM6 hf6 z6 v6 => ?_))
  dsimp only [Option.toList, List.cons_append, List.nil_append]
  refine x_istore dL_law_941 (Nat.le_of_ble_eq_true rfl) ?_
  refine x_aload_n dL_law_943 rfl ?_
  refine x_callV (As := []) 7 hO dL_law_944 o_X5_thrown v_X5_thrown l_L_101 ⟨Nat.le_of_ble_eq_true rfl, Nat.le_of_ble_eq_true rfl⟩ hM6.2.1.1 ⟨Nat.le_of_ble_eq_true rfl, Nat.le_of_ble_eq_true rfl⟩ rfl ⟨Nat.zero_le _, Nat.zero_le _⟩ rfl rfl (Nat.le_of_ble_eq_true rfl) (r_thrown hO hM6.2.1 ?_)
  dsimp only [Option.toList, List.cons_append, List.nil_append]
  rw [show gI (wI C5 f6) (x + 255) 0 = nI (aRun (S, n, ρ, L, K) (xs (6 * k + 1))).1 from z6]
  refine x_iload dL_law_947 rfl ?_
  refine x_icmp_eq (tgt := 954) dL_law_949 (by decide) (fun c949 => ?_) (fun c949 => ?_)
  · refine x_iload dL_law_954 rfl ?_
    refine x_if_ne (tgt := 971) dL_law_956 (by decide) (fun c956 => ?_) (fun c956 => ?_)
    · refine x_goto (tgt := 1702) dL_law_971 (by decide) ?_
      refine x_ls [(0, .ref b), (1, .ref x), (2, .ref (x + 255)), (3, .ref (x + 269)), (4, .int (nI (6 * k)))] ⟨rfl, rfl, rfl, rfl, rfl, trivial⟩ ?_
      exact hq _ _ _ _ (by show kk - 4 ≤ kk - 1 - 0 - 0; omega) (by show nn - 32 ≤ nn - 6 - 0 - 0; omega) (LwI_next hI hR5 hF5 hM6 hf6 (by omega))
    · have h0 : (aRun (S, n, ρ, L, K) (xs (6 * k + 1))).1 = 0 := (nI_z ab_run).mp c956
      have v6 := v6 h0
      subst v6
      have ko9 : gK (wI C5 f6) (x + 269) = 24 := (hF5.2 _ (by omega) (by omega)).1.trans ko
      have no9 : gN (wI C5 f6) (x + 269) = 1 := (hF5.2 _ (by omega) (by omega)).2.1.trans no
      refine x_aload_n dL_law_959 rfl ?_
      refine x_iconst (v := nI 0) dL_law_960 (by decide) ?_
      refine x_lald 0 1 hO dL_law_961 ko9 rfl no9 (by decide) (by decide) ?_
      rw [show gJ (wI C5 f6) (x + 269) 0 = (aRun (S, n, ρ, L, K) (xs (6 * k + 1))).2.1.toInt64 from hJ5 h0]
      refine x_iload dL_law_962 rfl ?_
      refine x_i2l dL_law_964 ?_
      refine x_lcmp dL_law_965 ?_
      refine x_if_eq (tgt := 971) dL_law_966 (by decide) (fun c966 => ?_) (fun c966 => ?_)
      · refine x_goto (tgt := 1702) dL_law_971 (by decide) ?_
        refine x_ls [(0, .ref b), (1, .ref x), (2, .ref (x + 255)), (3, .ref (x + 269)), (4, .int (nI (6 * k)))] ⟨rfl, rfl, rfl, rfl, rfl, trivial⟩ ?_
        exact hq _ _ _ _ (by show kk - 4 ≤ kk - 1 - 0 - 0; omega) (by show nn - 32 ≤ nn - 6 - 0 - 0; omega) (LwI_next hI hR5 hF5 hM6 hf6 (by omega))
      · exact absurd lg_self c966
  · exact absurd rfl c949

theorem lc_set {nm : String} {G : GT} {C : AH} {Q : QT} {sa va : Nat → Nat} {x b N T k kk nn : Nat} {xs : Nat → Int32} {s : St} (hO : GO G) (hX : GX G sa va) (hN : GN G) (hb : eT G .int b N (fun j => .int (xs j))) (hT : T ≤ 39000) (h6 : 6000 ≤ T) (hI : LwI C x T s) (hk : 6 * k + 6 ≤ N) (hL : N ≤ 3072) (hkk : 4 ≤ kk) (hnn : 32 ≤ nn) (hq : ∀ (C' : AH) (s' : St) (k' n' : Nat), kk - 4 ≤ k' → nn - 32 ≤ n' → LwI C' x (T + 48) s' → Ex G (M_law nm) Q NX k' n' 1702 [(0, .ref b), (1, .ref x), (2, .ref (x + 255)), (3, .ref (x + 269)), (4, .int (nI (6 * k)))] [] C') : Ex G (M_law nm) Q NX kk nn 974 [(0, .ref b), (1, .ref x), (2, .ref (x + 255)), (3, .ref (x + 269)), (4, .int (nI (6 * k)))] [] C := by
  obtain ⟨S, n, ρ, L, K⟩ := s
  obtain ⟨hR0, hM0, ko, no, hz⟩ := id hI
  refine x_aload_n dL_law_974 rfl ?_
  refine x_aload_n dL_law_975 rfl ?_
  refine x_iload dL_law_976 rfl ?_
  refine x_iconst (v := nI 1) dL_law_978 (by decide) ?_
  refine x_iadd dL_law_979 ?_
  refine x_tald _ hb dL_law_980 (nI_add _ _) (by omega) (by omega) ?_
  refine x_aload_n dL_law_981 rfl ?_
  refine x_iload dL_law_982 rfl ?_
  refine x_iconst (v := nI 2) dL_law_984 (by decide) ?_
  refine x_iadd dL_law_985 ?_
  refine x_tald _ hb dL_law_986 (nI_add _ _) (by omega) (by omega) ?_
  refine x_aload_n dL_law_987 rfl ?_
  refine x_callSX (As := [_, _, _, _]) hO dL_law_988 o_L_set s_L_set l_L_149 ⟨Nat.le_of_ble_eq_true rfl, Nat.le_of_ble_eq_true rfl⟩ ⟨(by show 1 ≤ kk; omega), (by show 6 ≤ nn; omega)⟩ rfl rfl (Nat.le_of_ble_eq_true rfl) (l_set (X := NX) (T := T) hN hO hX (by omega) hR0 ko no (Or.inr (by omega)) (by omega) (fun r5 C5 hR5 hF5 h5 hJ5 => ?_))
  dsimp only [Option.toList, List.cons_append, List.nil_append]
  subst h5
  refine x_istore dL_law_991 (Nat.le_of_ble_eq_true rfl) ?_
  refine x_aload_n dL_law_993 rfl ?_
  refine x_aload_n dL_law_994 rfl ?_
  refine x_iload dL_law_995 rfl ?_
  refine x_iconst (v := nI 1) dL_law_997 (by decide) ?_
  refine x_iadd dL_law_998 ?_
  refine x_tald _ hb dL_law_999 (nI_add _ _) (by omega) (by omega) ?_
  refine x_aload_n dL_law_1000 rfl ?_
  refine x_iload dL_law_1001 rfl ?_
  refine x_iconst (v := nI 2) dL_law_1003 (by decide) ?_
  refine x_iadd dL_law_1004 ?_
  refine x_tald _ hb dL_law_1005 (nI_add _ _) (by omega) (by omega) ?_
  refine x_callV (As := [_, _]) 7 hO dL_law_1006 o_X5_set v_X5_set l_L_151 ⟨Nat.le_of_ble_eq_true rfl, Nat.le_of_ble_eq_true rfl⟩ ((hF5.2 _ (by omega) (by omega)).1.trans hM0.2.1.1) ⟨Nat.le_of_ble_eq_true rfl, Nat.le_of_ble_eq_true rfl⟩ rfl ⟨Nat.zero_le _, Nat.zero_le _⟩ rfl rfl (Nat.le_of_ble_eq_true rfl) (r_set (C := C5) (T := T) hO (by omega) (RM_L hM0 hF5 (Nat.le_refl _) (by omega)) (fun r6 f6 hM6 hf6 z6 v6 => ?_))
  dsimp only [Option.toList, List.cons_append, List.nil_append]
  refine x_istore dL_law_1009 (Nat.le_of_ble_eq_true rfl) ?_
  refine x_aload_n dL_law_1011 rfl ?_
  refine x_callV (As := []) 7 hO dL_law_1012 o_X5_thrown v_X5_thrown l_L_101 ⟨Nat.le_of_ble_eq_true rfl, Nat.le_of_ble_eq_true rfl⟩ hM6.2.1.1 ⟨Nat.le_of_ble_eq_true rfl, Nat.le_of_ble_eq_true rfl⟩ rfl ⟨Nat.zero_le _, Nat.zero_le _⟩ rfl rfl (Nat.le_of_ble_eq_true rfl) (r_thrown hO hM6.2.1 ?_)
  dsimp only [Option.toList, List.cons_append, List.nil_append]
  rw [show gI (wI C5 f6) (x + 255) 0 = nI (aSet (S, n, ρ, L, K) (xs (6 * k + 1)) (xs (6 * k + 2))).1 from z6]
  refine x_iload dL_law_1015 rfl ?_
  refine x_icmp_eq (tgt := 1022) dL_law_1017 (by decide) (fun c1017 => ?_) (fun c1017 => ?_)
  · refine x_iload dL_law_1022 rfl ?_
    refine x_if_ne (tgt := 1039) dL_law_1024 (by decide) (fun c1024 => ?_) (fun c1024 => ?_)
    · refine x_goto (tgt := 1702) dL_law_1039 (by decide) ?_
      refine x_ls [(0, .ref b), (1, .ref x), (2, .ref (x + 255)), (3, .ref (x + 269)), (4, .int (nI (6 * k)))] ⟨rfl, rfl, rfl, rfl, rfl, trivial⟩ ?_
      exact hq _ _ _ _ (by show kk - 4 ≤ kk - 1 - 0 - 0; omega) (by show nn - 32 ≤ nn - 6 - 0 - 0; omega) (LwI_next hI hR5 hF5 hM6 hf6 (by omega))
    · have h0 : (aSet (S, n, ρ, L, K) (xs (6 * k + 1)) (xs (6 * k + 2))).1 = 0 := (nI_z ab_set).mp c1024
      have v6 := v6 h0
      subst v6
      have ko9 : gK (wI C5 f6) (x + 269) = 24 := (hF5.2 _ (by omega) (by omega)).1.trans ko
      have no9 : gN (wI C5 f6) (x + 269) = 1 := (hF5.2 _ (by omega) (by omega)).2.1.trans no
      refine x_aload_n dL_law_1027 rfl ?_
      refine x_iconst (v := nI 0) dL_law_1028 (by decide) ?_
      refine x_lald 0 1 hO dL_law_1029 ko9 rfl no9 (by decide) (by decide) ?_
      rw [show gJ (wI C5 f6) (x + 269) 0 = (aSet (S, n, ρ, L, K) (xs (6 * k + 1)) (xs (6 * k + 2))).2.1.toInt64 from hJ5 h0]
      refine x_iload dL_law_1030 rfl ?_
      refine x_i2l dL_law_1032 ?_
      refine x_lcmp dL_law_1033 ?_
      refine x_if_eq (tgt := 1039) dL_law_1034 (by decide) (fun c1034 => ?_) (fun c1034 => ?_)
      · refine x_goto (tgt := 1702) dL_law_1039 (by decide) ?_
        refine x_ls [(0, .ref b), (1, .ref x), (2, .ref (x + 255)), (3, .ref (x + 269)), (4, .int (nI (6 * k)))] ⟨rfl, rfl, rfl, rfl, rfl, trivial⟩ ?_
        exact hq _ _ _ _ (by show kk - 4 ≤ kk - 1 - 0 - 0; omega) (by show nn - 32 ≤ nn - 6 - 0 - 0; omega) (LwI_next hI hR5 hF5 hM6 hf6 (by omega))
      · exact absurd lg_self c1034
  · exact absurd rfl c1017

theorem lc_undo {nm : String} {G : GT} {C : AH} {Q : QT} {sa va : Nat → Nat} {x b N T k kk nn : Nat} {xs : Nat → Int32} {s : St} (hO : GO G) (hX : GX G sa va) (hN : GN G) (hb : eT G .int b N (fun j => .int (xs j))) (hT : T ≤ 39000) (h6 : 6000 ≤ T) (hI : LwI C x T s) (hk : 6 * k + 6 ≤ N) (hL : N ≤ 3072) (hkk : 4 ≤ kk) (hnn : 32 ≤ nn) (hq : ∀ (C' : AH) (s' : St) (k' n' : Nat), kk - 4 ≤ k' → nn - 32 ≤ n' → LwI C' x (T + 48) s' → Ex G (M_law nm) Q NX k' n' 1702 [(0, .ref b), (1, .ref x), (2, .ref (x + 255)), (3, .ref (x + 269)), (4, .int (nI (6 * k)))] [] C') : Ex G (M_law nm) Q NX kk nn 1042 [(0, .ref b), (1, .ref x), (2, .ref (x + 255)), (3, .ref (x + 269)), (4, .int (nI (6 * k)))] [] C := by
  obtain ⟨S, n, ρ, L, K⟩ := s
  obtain ⟨hR0, hM0, ko, no, hz⟩ := id hI
  refine x_aload_n dL_law_1042 rfl ?_
  refine x_aload_n dL_law_1043 rfl ?_
  refine x_callSX (As := [_, _]) hO dL_law_1044 o_L_undo s_L_undo l_L_152 ⟨Nat.le_of_ble_eq_true rfl, Nat.le_of_ble_eq_true rfl⟩ ⟨(by show 1 ≤ kk; omega), (by show 6 ≤ nn; omega)⟩ rfl rfl (Nat.le_of_ble_eq_true rfl) (l_undo (X := NX) (T := T) hN hO hX (by omega) hR0 ko no (Or.inr (by omega)) (by omega) (fun r5 C5 hR5 hF5 h5 hJ5 => ?_))
  dsimp only [Option.toList, List.cons_append, List.nil_append]
  subst h5
  refine x_istore dL_law_1047 (Nat.le_of_ble_eq_true rfl) ?_
  refine x_aload_n dL_law_1049 rfl ?_
  refine x_callV (As := []) 7 hO dL_law_1050 o_X5_undo v_X5_undo l_L_154 ⟨Nat.le_of_ble_eq_true rfl, Nat.le_of_ble_eq_true rfl⟩ ((hF5.2 _ (by omega) (by omega)).1.trans hM0.2.1.1) ⟨Nat.le_of_ble_eq_true rfl, Nat.le_of_ble_eq_true rfl⟩ rfl ⟨Nat.zero_le _, Nat.zero_le _⟩ rfl rfl (Nat.le_of_ble_eq_true rfl) (r_undo (C := C5) (T := T) hO (by omega) (RM_L hM0 hF5 (Nat.le_refl _) (by omega)) (fun r6 f6 hM6 hf6 z6 v6 => ?_))
  dsimp only [Option.toList, List.cons_append, List.nil_append]
  refine x_istore dL_law_1053 (Nat.le_of_ble_eq_true rfl) ?_
  refine x_aload_n dL_law_1055 rfl ?_
  refine x_callV (As := []) 7 hO dL_law_1056 o_X5_thrown v_X5_thrown l_L_101 ⟨Nat.le_of_ble_eq_true rfl, Nat.le_of_ble_eq_true rfl⟩ hM6.2.1.1 ⟨Nat.le_of_ble_eq_true rfl, Nat.le_of_ble_eq_true rfl⟩ rfl ⟨Nat.zero_le _, Nat.zero_le _⟩ rfl rfl (Nat.le_of_ble_eq_true rfl) (r_thrown hO hM6.2.1 ?_)
  dsimp only [Option.toList, List.cons_append, List.nil_append]
  rw [show gI (wI C5 f6) (x + 255) 0 = nI (aUndo (S, n, ρ, L, K)).1 from z6]
  refine x_iload dL_law_1059 rfl ?_
  refine x_icmp_eq (tgt := 1066) dL_law_1061 (by decide) (fun c1061 => ?_) (fun c1061 => ?_)
  · refine x_iload dL_law_1066 rfl ?_
    refine x_if_ne (tgt := 1083) dL_law_1068 (by decide) (fun c1068 => ?_) (fun c1068 => ?_)
    · refine x_goto (tgt := 1702) dL_law_1083 (by decide) ?_
      refine x_ls [(0, .ref b), (1, .ref x), (2, .ref (x + 255)), (3, .ref (x + 269)), (4, .int (nI (6 * k)))] ⟨rfl, rfl, rfl, rfl, rfl, trivial⟩ ?_
      exact hq _ _ _ _ (by show kk - 4 ≤ kk - 1 - 0 - 0; omega) (by show nn - 32 ≤ nn - 6 - 0 - 0; omega) (LwI_next hI hR5 hF5 hM6 hf6 (by omega))
    · have h0 : (aUndo (S, n, ρ, L, K)).1 = 0 := (nI_z ab_undo).mp c1068
      have v6 := v6 h0
      subst v6
      have ko9 : gK (wI C5 f6) (x + 269) = 24 := (hF5.2 _ (by omega) (by omega)).1.trans ko
      have no9 : gN (wI C5 f6) (x + 269) = 1 := (hF5.2 _ (by omega) (by omega)).2.1.trans no
      refine x_aload_n dL_law_1071 rfl ?_
      refine x_iconst (v := nI 0) dL_law_1072 (by decide) ?_
      refine x_lald 0 1 hO dL_law_1073 ko9 rfl no9 (by decide) (by decide) ?_
      rw [show gJ (wI C5 f6) (x + 269) 0 = (aUndo (S, n, ρ, L, K)).2.1.toInt64 from hJ5 h0]
      refine x_iload dL_law_1074 rfl ?_
      refine x_i2l dL_law_1076 ?_
      refine x_lcmp dL_law_1077 ?_
      refine x_if_eq (tgt := 1083) dL_law_1078 (by decide) (fun c1078 => ?_) (fun c1078 => ?_)
      · refine x_goto (tgt := 1702) dL_law_1083 (by decide) ?_
        refine x_ls [(0, .ref b), (1, .ref x), (2, .ref (x + 255)), (3, .ref (x + 269)), (4, .int (nI (6 * k)))] ⟨rfl, rfl, rfl, rfl, rfl, trivial⟩ ?_
        exact hq _ _ _ _ (by show kk - 4 ≤ kk - 1 - 0 - 0; omega) (by show nn - 32 ≤ nn - 6 - 0 - 0; omega) (LwI_next hI hR5 hF5 hM6 hf6 (by omega))
      · exact absurd lg_self c1078
  · exact absurd rfl c1061

theorem lc_coming {nm : String} {G : GT} {C : AH} {Q : QT} {sa va : Nat → Nat} {x b N T k kk nn : Nat} {xs : Nat → Int32} {s : St} (hO : GO G) (hX : GX G sa va) (hN : GN G) (hb : eT G .int b N (fun j => .int (xs j))) (hT : T ≤ 39000) (h6 : 6000 ≤ T) (hI : LwI C x T s) (hk : 6 * k + 6 ≤ N) (hL : N ≤ 3072) (hkk : 4 ≤ kk) (hnn : 32 ≤ nn) (hq : ∀ (C' : AH) (s' : St) (k' n' : Nat), kk - 4 ≤ k' → nn - 32 ≤ n' → LwI C' x (T + 48) s' → Ex G (M_law nm) Q NX k' n' 1702 [(0, .ref b), (1, .ref x), (2, .ref (x + 255)), (3, .ref (x + 269)), (4, .int (nI (6 * k)))] [] C') : Ex G (M_law nm) Q NX kk nn 1086 [(0, .ref b), (1, .ref x), (2, .ref (x + 255)), (3, .ref (x + 269)), (4, .int (nI (6 * k)))] [] C := by
  obtain ⟨S, n, ρ, L, K⟩ := s
  obtain ⟨hR0, hM0, ko, no, hz⟩ := id hI
  refine x_aload_n dL_law_1086 rfl ?_
  refine x_aload_n dL_law_1087 rfl ?_
  refine x_iload dL_law_1088 rfl ?_
  refine x_iconst (v := nI 1) dL_law_1090 (by decide) ?_
  refine x_iadd dL_law_1091 ?_
  refine x_tald _ hb dL_law_1092 (nI_add _ _) (by omega) (by omega) ?_
  refine x_aload_n dL_law_1093 rfl ?_
  refine x_iload dL_law_1094 rfl ?_
  refine x_iconst (v := nI 2) dL_law_1096 (by decide) ?_
  refine x_iadd dL_law_1097 ?_
  refine x_tald _ hb dL_law_1098 (nI_add _ _) (by omega) (by omega) ?_
  refine x_aload_n dL_law_1099 rfl ?_
  refine x_callSX (As := [_, _, _, _]) hO dL_law_1100 o_L_coming s_L_coming l_L_155 ⟨Nat.le_of_ble_eq_true rfl, Nat.le_of_ble_eq_true rfl⟩ ⟨(by show 2 ≤ kk; omega), (by show 12 ≤ nn; omega)⟩ rfl rfl (Nat.le_of_ble_eq_true rfl) (l_coming (X := NX) (T := T) hN hO hX (by omega) hR0 ko no (Or.inr (by omega)) (by omega) (fun r5 C5 hR5 hF5 h5 hJ5 => ?_))
  dsimp only [Option.toList, List.cons_append, List.nil_append]
  subst h5
  refine x_istore dL_law_1103 (Nat.le_of_ble_eq_true rfl) ?_
  refine x_aload_n dL_law_1105 rfl ?_
  refine x_aload_n dL_law_1106 rfl ?_
  refine x_iload dL_law_1107 rfl ?_
  refine x_iconst (v := nI 1) dL_law_1109 (by decide) ?_
  refine x_iadd dL_law_1110 ?_
  refine x_tald _ hb dL_law_1111 (nI_add _ _) (by omega) (by omega) ?_
  refine x_aload_n dL_law_1112 rfl ?_
  refine x_iload dL_law_1113 rfl ?_
  refine x_iconst (v := nI 2) dL_law_1115 (by decide) ?_
  refine x_iadd dL_law_1116 ?_
  refine x_tald _ hb dL_law_1117 (nI_add _ _) (by omega) (by omega) ?_
  refine x_callV (As := [_, _]) 7 hO dL_law_1118 o_X5_coming v_X5_coming l_L_157 ⟨Nat.le_of_ble_eq_true rfl, Nat.le_of_ble_eq_true rfl⟩ ((hF5.2 _ (by omega) (by omega)).1.trans hM0.2.1.1) ⟨Nat.le_of_ble_eq_true rfl, Nat.le_of_ble_eq_true rfl⟩ rfl ⟨Nat.zero_le _, Nat.zero_le _⟩ rfl rfl (Nat.le_of_ble_eq_true rfl) (r_coming (C := C5) (T := T) hO (by omega) (RM_L hM0 hF5 (Nat.le_refl _) (by omega)) (fun r6 f6 hM6 hf6 z6 v6 => ?_))
  dsimp only [Option.toList, List.cons_append, List.nil_append]
  refine x_istore dL_law_1121 (Nat.le_of_ble_eq_true rfl) ?_
  refine x_aload_n dL_law_1123 rfl ?_
  refine x_callV (As := []) 7 hO dL_law_1124 o_X5_thrown v_X5_thrown l_L_101 ⟨Nat.le_of_ble_eq_true rfl, Nat.le_of_ble_eq_true rfl⟩ hM6.2.1.1 ⟨Nat.le_of_ble_eq_true rfl, Nat.le_of_ble_eq_true rfl⟩ rfl ⟨Nat.zero_le _, Nat.zero_le _⟩ rfl rfl (Nat.le_of_ble_eq_true rfl) (r_thrown hO hM6.2.1 ?_)
  dsimp only [Option.toList, List.cons_append, List.nil_append]
  rw [show gI (wI C5 f6) (x + 255) 0 = nI (aComing (S, n, ρ, L, K) (xs (6 * k + 1)) (xs (6 * k + 2))).1 from z6]
  refine x_iload dL_law_1127 rfl ?_
  refine x_icmp_eq (tgt := 1134) dL_law_1129 (by decide) (fun c1129 => ?_) (fun c1129 => ?_)
  · refine x_iload dL_law_1134 rfl ?_
    refine x_if_ne (tgt := 1151) dL_law_1136 (by decide) (fun c1136 => ?_) (fun c1136 => ?_)
    · refine x_goto (tgt := 1702) dL_law_1151 (by decide) ?_
      refine x_ls [(0, .ref b), (1, .ref x), (2, .ref (x + 255)), (3, .ref (x + 269)), (4, .int (nI (6 * k)))] ⟨rfl, rfl, rfl, rfl, rfl, trivial⟩ ?_
      exact hq _ _ _ _ (by show kk - 4 ≤ kk - 2 - 0 - 0; omega) (by show nn - 32 ≤ nn - 12 - 0 - 0; omega) (LwI_next hI hR5 hF5 hM6 hf6 (by omega))
    · have h0 : (aComing (S, n, ρ, L, K) (xs (6 * k + 1)) (xs (6 * k + 2))).1 = 0 := (nI_z ab_coming).mp c1136
      have v6 := v6 h0
      subst v6
      have ko9 : gK (wI C5 f6) (x + 269) = 24 := (hF5.2 _ (by omega) (by omega)).1.trans ko
      have no9 : gN (wI C5 f6) (x + 269) = 1 := (hF5.2 _ (by omega) (by omega)).2.1.trans no
      refine x_aload_n dL_law_1139 rfl ?_
      refine x_iconst (v := nI 0) dL_law_1140 (by decide) ?_
      refine x_lald 0 1 hO dL_law_1141 ko9 rfl no9 (by decide) (by decide) ?_
      rw [show gJ (wI C5 f6) (x + 269) 0 = (aComing (S, n, ρ, L, K) (xs (6 * k + 1)) (xs (6 * k + 2))).2.1.toInt64 from hJ5 h0]
      refine x_iload dL_law_1142 rfl ?_
      refine x_i2l dL_law_1144 ?_
      refine x_lcmp dL_law_1145 ?_
      refine x_if_eq (tgt := 1151) dL_law_1146 (by decide) (fun c1146 => ?_) (fun c1146 => ?_)
      · refine x_goto (tgt := 1702) dL_law_1151 (by decide) ?_
        refine x_ls [(0, .ref b), (1, .ref x), (2, .ref (x + 255)), (3, .ref (x + 269)), (4, .int (nI (6 * k)))] ⟨rfl, rfl, rfl, rfl, rfl, trivial⟩ ?_
        exact hq _ _ _ _ (by show kk - 4 ≤ kk - 2 - 0 - 0; omega) (by show nn - 32 ≤ nn - 12 - 0 - 0; omega) (LwI_next hI hR5 hF5 hM6 hf6 (by omega))
      · exact absurd lg_self c1146
  · exact absurd rfl c1129

theorem lc_firstMissed {nm : String} {G : GT} {C : AH} {Q : QT} {sa va : Nat → Nat} {x b N T k kk nn : Nat} {xs : Nat → Int32} {s : St} (hO : GO G) (hX : GX G sa va) (hN : GN G) (hb : eT G .int b N (fun j => .int (xs j))) (hT : T ≤ 39000) (h6 : 6000 ≤ T) (hI : LwI C x T s) (hk : 6 * k + 6 ≤ N) (hL : N ≤ 3072) (hkk : 4 ≤ kk) (hnn : 32 ≤ nn) (hq : ∀ (C' : AH) (s' : St) (k' n' : Nat), kk - 4 ≤ k' → nn - 32 ≤ n' → LwI C' x (T + 48) s' → Ex G (M_law nm) Q NX k' n' 1702 [(0, .ref b), (1, .ref x), (2, .ref (x + 255)), (3, .ref (x + 269)), (4, .int (nI (6 * k)))] [] C') : Ex G (M_law nm) Q NX kk nn 1154 [(0, .ref b), (1, .ref x), (2, .ref (x + 255)), (3, .ref (x + 269)), (4, .int (nI (6 * k)))] [] C := by
  obtain ⟨S, n, ρ, L, K⟩ := s
  obtain ⟨hR0, hM0, ko, no, hz⟩ := id hI
  refine x_aload_n dL_law_1154 rfl ?_
  refine x_aload_n dL_law_1155 rfl ?_
  refine x_iload dL_law_1156 rfl ?_
  refine x_iconst (v := nI 1) dL_law_1158 (by decide) ?_
  refine x_iadd dL_law_1159 ?_
  refine x_tald _ hb dL_law_1160 (nI_add _ _) (by omega) (by omega) ?_
  refine x_aload_n dL_law_1161 rfl ?_
  refine x_callSX (As := [_, _, _]) hO dL_law_1162 o_L_firstMissed s_L_firstMissed l_L_158 ⟨Nat.le_of_ble_eq_true rfl, Nat.le_of_ble_eq_true rfl⟩ ⟨(by show 1 ≤ kk; omega), (by show 6 ≤ nn; omega)⟩ rfl rfl (Nat.le_of_ble_eq_true rfl) (l_firstMissed (X := NX) (T := T) hN hO hX (by omega) hR0 ko no (Or.inr (by omega)) (by omega) (fun r5 C5 hR5 hF5 h5 hJ5 => ?_))
  dsimp only [Option.toList, List.cons_append, List.nil_append]
  subst h5
  refine x_istore dL_law_1165 (Nat.le_of_ble_eq_true rfl) ?_
  refine x_aload_n dL_law_1167 rfl ?_
  refine x_aload_n dL_law_1168 rfl ?_
  refine x_iload dL_law_1169 rfl ?_
  refine x_iconst (v := nI 1) dL_law_1171 (by decide) ?_
  refine x_iadd dL_law_1172 ?_
  refine x_tald _ hb dL_law_1173 (nI_add _ _) (by omega) (by omega) ?_
  refine x_callV (As := [_]) 7 hO dL_law_1174 o_X5_firstMissed v_X5_firstMissed l_L_160 ⟨Nat.le_of_ble_eq_true rfl, Nat.le_of_ble_eq_true rfl⟩ ((hF5.2 _ (by omega) (by omega)).1.trans hM0.2.1.1) ⟨Nat.le_of_ble_eq_true rfl, Nat.le_of_ble_eq_true rfl⟩ rfl ⟨Nat.zero_le _, Nat.zero_le _⟩ rfl rfl (Nat.le_of_ble_eq_true rfl) (r_firstMissed (C := C5) (T := T) hO (by omega) (RM_L hM0 hF5 (Nat.le_refl _) (by omega)) (fun r6 f6 hM6 hf6 z6 v6 => ?_))
  dsimp only [Option.toList, List.cons_append, List.nil_append]
  refine x_istore dL_law_1177 (Nat.le_of_ble_eq_true rfl) ?_
  refine x_aload_n dL_law_1179 rfl ?_
  refine x_callV (As := []) 7 hO dL_law_1180 o_X5_thrown v_X5_thrown l_L_101 ⟨Nat.le_of_ble_eq_true rfl, Nat.le_of_ble_eq_true rfl⟩ hM6.2.1.1 ⟨Nat.le_of_ble_eq_true rfl, Nat.le_of_ble_eq_true rfl⟩ rfl ⟨Nat.zero_le _, Nat.zero_le _⟩ rfl rfl (Nat.le_of_ble_eq_true rfl) (r_thrown hO hM6.2.1 ?_)
  dsimp only [Option.toList, List.cons_append, List.nil_append]
  rw [show gI (wI C5 f6) (x + 255) 0 = nI (aFirst (S, n, ρ, L, K) (xs (6 * k + 1))).1 from z6]
  refine x_iload dL_law_1183 rfl ?_
  refine x_icmp_eq (tgt := 1190) dL_law_1185 (by decide) (fun c1185 => ?_) (fun c1185 => ?_)
  · refine x_iload dL_law_1190 rfl ?_
    refine x_if_ne (tgt := 1207) dL_law_1192 (by decide) (fun c1192 => ?_) (fun c1192 => ?_)
    · refine x_goto (tgt := 1702) dL_law_1207 (by decide) ?_
      refine x_ls [(0, .ref b), (1, .ref x), (2, .ref (x + 255)), (3, .ref (x + 269)), (4, .int (nI (6 * k)))] ⟨rfl, rfl, rfl, rfl, rfl, trivial⟩ ?_
      exact hq _ _ _ _ (by show kk - 4 ≤ kk - 1 - 0 - 0; omega) (by show nn - 32 ≤ nn - 6 - 0 - 0; omega) (LwI_next hI hR5 hF5 hM6 hf6 (by omega))
    · have h0 : (aFirst (S, n, ρ, L, K) (xs (6 * k + 1))).1 = 0 := (nI_z ab_firstMissed).mp c1192
      have v6 := v6 h0
      subst v6
      have ko9 : gK (wI C5 f6) (x + 269) = 24 := (hF5.2 _ (by omega) (by omega)).1.trans ko
      have no9 : gN (wI C5 f6) (x + 269) = 1 := (hF5.2 _ (by omega) (by omega)).2.1.trans no
      refine x_aload_n dL_law_1195 rfl ?_
      refine x_iconst (v := nI 0) dL_law_1196 (by decide) ?_
      refine x_lald 0 1 hO dL_law_1197 ko9 rfl no9 (by decide) (by decide) ?_
      rw [show gJ (wI C5 f6) (x + 269) 0 = (aFirst (S, n, ρ, L, K) (xs (6 * k + 1))).2.1.toInt64 from hJ5 h0]
      refine x_iload dL_law_1198 rfl ?_
      refine x_i2l dL_law_1200 ?_
      refine x_lcmp dL_law_1201 ?_
      refine x_if_eq (tgt := 1207) dL_law_1202 (by decide) (fun c1202 => ?_) (fun c1202 => ?_)
      · refine x_goto (tgt := 1702) dL_law_1207 (by decide) ?_
        refine x_ls [(0, .ref b), (1, .ref x), (2, .ref (x + 255)), (3, .ref (x + 269)), (4, .int (nI (6 * k)))] ⟨rfl, rfl, rfl, rfl, rfl, trivial⟩ ?_
        exact hq _ _ _ _ (by show kk - 4 ≤ kk - 1 - 0 - 0; omega) (by show nn - 32 ≤ nn - 6 - 0 - 0; omega) (LwI_next hI hR5 hF5 hM6 hf6 (by omega))
      · exact absurd lg_self c1202
  · exact absurd rfl c1185

theorem lc_leastLimit {nm : String} {G : GT} {C : AH} {Q : QT} {sa va : Nat → Nat} {x b N T k kk nn : Nat} {xs : Nat → Int32} {s : St} (hO : GO G) (hX : GX G sa va) (hN : GN G) (hb : eT G .int b N (fun j => .int (xs j))) (hT : T ≤ 39000) (h6 : 6000 ≤ T) (hI : LwI C x T s) (hk : 6 * k + 6 ≤ N) (hL : N ≤ 3072) (hkk : 4 ≤ kk) (hnn : 32 ≤ nn) (hq : ∀ (C' : AH) (s' : St) (k' n' : Nat), kk - 4 ≤ k' → nn - 32 ≤ n' → LwI C' x (T + 48) s' → Ex G (M_law nm) Q NX k' n' 1702 [(0, .ref b), (1, .ref x), (2, .ref (x + 255)), (3, .ref (x + 269)), (4, .int (nI (6 * k)))] [] C') : Ex G (M_law nm) Q NX kk nn 1210 [(0, .ref b), (1, .ref x), (2, .ref (x + 255)), (3, .ref (x + 269)), (4, .int (nI (6 * k)))] [] C := by
  obtain ⟨S, n, ρ, L, K⟩ := s
  obtain ⟨hR0, hM0, ko, no, hz⟩ := id hI
  refine x_aload_n dL_law_1210 rfl ?_
  refine x_aload_n dL_law_1211 rfl ?_
  refine x_iload dL_law_1212 rfl ?_
  refine x_iconst (v := nI 1) dL_law_1214 (by decide) ?_
  refine x_iadd dL_law_1215 ?_
  refine x_tald _ hb dL_law_1216 (nI_add _ _) (by omega) (by omega) ?_
  refine x_aload_n dL_law_1217 rfl ?_
  refine x_callSX (As := [_, _, _]) hO dL_law_1218 o_L_leastLimit s_L_leastLimit l_L_161 ⟨Nat.le_of_ble_eq_true rfl, Nat.le_of_ble_eq_true rfl⟩ ⟨(by show 1 ≤ kk; omega), (by show 6 ≤ nn; omega)⟩ rfl rfl (Nat.le_of_ble_eq_true rfl) (l_leastLimit (X := NX) (T := T) hN hO hX (by omega) hR0 ko no (Or.inr (by omega)) (by omega) (fun r5 C5 hR5 hF5 h5 hJ5 => ?_))
  dsimp only [Option.toList, List.cons_append, List.nil_append]
  subst h5
  refine x_istore dL_law_1221 (Nat.le_of_ble_eq_true rfl) ?_
  refine x_aload_n dL_law_1223 rfl ?_
  refine x_aload_n dL_law_1224 rfl ?_
  refine x_iload dL_law_1225 rfl ?_
  refine x_iconst (v := nI 1) dL_law_1227 (by decide) ?_
  refine x_iadd dL_law_1228 ?_
  refine x_tald _ hb dL_law_1229 (nI_add _ _) (by omega) (by omega) ?_
  refine x_callV (As := [_]) 7 hO dL_law_1230 o_X5_leastLimit v_X5_leastLimit l_L_163 ⟨Nat.le_of_ble_eq_true rfl, Nat.le_of_ble_eq_true rfl⟩ ((hF5.2 _ (by omega) (by omega)).1.trans hM0.2.1.1) ⟨Nat.le_of_ble_eq_true rfl, Nat.le_of_ble_eq_true rfl⟩ rfl ⟨Nat.zero_le _, Nat.zero_le _⟩ rfl rfl (Nat.le_of_ble_eq_true rfl) (r_leastLimit (C := C5) (T := T) hO (by omega) (RM_L hM0 hF5 (Nat.le_refl _) (by omega)) (fun r6 f6 hM6 hf6 z6 v6 => ?_))
  dsimp only [Option.toList, List.cons_append, List.nil_append]
  refine x_istore dL_law_1233 (Nat.le_of_ble_eq_true rfl) ?_
  refine x_aload_n dL_law_1235 rfl ?_
  refine x_callV (As := []) 7 hO dL_law_1236 o_X5_thrown v_X5_thrown l_L_101 ⟨Nat.le_of_ble_eq_true rfl, Nat.le_of_ble_eq_true rfl⟩ hM6.2.1.1 ⟨Nat.le_of_ble_eq_true rfl, Nat.le_of_ble_eq_true rfl⟩ rfl ⟨Nat.zero_le _, Nat.zero_le _⟩ rfl rfl (Nat.le_of_ble_eq_true rfl) (r_thrown hO hM6.2.1 ?_)
  dsimp only [Option.toList, List.cons_append, List.nil_append]
  rw [show gI (wI C5 f6) (x + 255) 0 = nI (aLeast (S, n, ρ, L, K) (xs (6 * k + 1))).1 from z6]
  refine x_iload dL_law_1239 rfl ?_
  refine x_icmp_eq (tgt := 1246) dL_law_1241 (by decide) (fun c1241 => ?_) (fun c1241 => ?_)
  · refine x_iload dL_law_1246 rfl ?_
    refine x_if_ne (tgt := 1263) dL_law_1248 (by decide) (fun c1248 => ?_) (fun c1248 => ?_)
    · refine x_goto (tgt := 1702) dL_law_1263 (by decide) ?_
      refine x_ls [(0, .ref b), (1, .ref x), (2, .ref (x + 255)), (3, .ref (x + 269)), (4, .int (nI (6 * k)))] ⟨rfl, rfl, rfl, rfl, rfl, trivial⟩ ?_
      exact hq _ _ _ _ (by show kk - 4 ≤ kk - 1 - 0 - 0; omega) (by show nn - 32 ≤ nn - 6 - 0 - 0; omega) (LwI_next hI hR5 hF5 hM6 hf6 (by omega))
    · have h0 : (aLeast (S, n, ρ, L, K) (xs (6 * k + 1))).1 = 0 := (nI_z ab_leastLimit).mp c1248
      have v6 := v6 h0
      subst v6
      have ko9 : gK (wI C5 f6) (x + 269) = 24 := (hF5.2 _ (by omega) (by omega)).1.trans ko
      have no9 : gN (wI C5 f6) (x + 269) = 1 := (hF5.2 _ (by omega) (by omega)).2.1.trans no
      refine x_aload_n dL_law_1251 rfl ?_
      refine x_iconst (v := nI 0) dL_law_1252 (by decide) ?_
      refine x_lald 0 1 hO dL_law_1253 ko9 rfl no9 (by decide) (by decide) ?_
      rw [show gJ (wI C5 f6) (x + 269) 0 = (aLeast (S, n, ρ, L, K) (xs (6 * k + 1))).2.1.toInt64 from hJ5 h0]
      refine x_iload dL_law_1254 rfl ?_
      refine x_i2l dL_law_1256 ?_
      refine x_lcmp dL_law_1257 ?_
      refine x_if_eq (tgt := 1263) dL_law_1258 (by decide) (fun c1258 => ?_) (fun c1258 => ?_)
      · refine x_goto (tgt := 1702) dL_law_1263 (by decide) ?_
        refine x_ls [(0, .ref b), (1, .ref x), (2, .ref (x + 255)), (3, .ref (x + 269)), (4, .int (nI (6 * k)))] ⟨rfl, rfl, rfl, rfl, rfl, trivial⟩ ?_
        exact hq _ _ _ _ (by show kk - 4 ≤ kk - 1 - 0 - 0; omega) (by show nn - 32 ≤ nn - 6 - 0 - 0; omega) (LwI_next hI hR5 hF5 hM6 hf6 (by omega))
      · exact absurd lg_self c1258
  · exact absurd rfl c1241

theorem lc_bestNight {nm : String} {G : GT} {C : AH} {Q : QT} {sa va : Nat → Nat} {x b N T k kk nn : Nat} {xs : Nat → Int32} {s : St} (hO : GO G) (hX : GX G sa va) (hN : GN G) (hb : eT G .int b N (fun j => .int (xs j))) (hT : T ≤ 39000) (h6 : 6000 ≤ T) (hI : LwI C x T s) (hk : 6 * k + 6 ≤ N) (hL : N ≤ 3072) (hkk : 4 ≤ kk) (hnn : 32 ≤ nn) (hq : ∀ (C' : AH) (s' : St) (k' n' : Nat), kk - 4 ≤ k' → nn - 32 ≤ n' → LwI C' x (T + 48) s' → Ex G (M_law nm) Q NX k' n' 1702 [(0, .ref b), (1, .ref x), (2, .ref (x + 255)), (3, .ref (x + 269)), (4, .int (nI (6 * k)))] [] C') : Ex G (M_law nm) Q NX kk nn 1266 [(0, .ref b), (1, .ref x), (2, .ref (x + 255)), (3, .ref (x + 269)), (4, .int (nI (6 * k)))] [] C := by
  obtain ⟨S, n, ρ, L, K⟩ := s
  obtain ⟨hR0, hM0, ko, no, hz⟩ := id hI
  refine x_aload_n dL_law_1266 rfl ?_
  refine x_aload_n dL_law_1267 rfl ?_
  refine x_iload dL_law_1268 rfl ?_
  refine x_iconst (v := nI 1) dL_law_1270 (by decide) ?_
  refine x_iadd dL_law_1271 ?_
  refine x_tald _ hb dL_law_1272 (nI_add _ _) (by omega) (by omega) ?_
  refine x_aload_n dL_law_1273 rfl ?_
  refine x_callSX (As := [_, _, _]) hO dL_law_1274 o_L_bestNight s_L_bestNight l_L_164 ⟨Nat.le_of_ble_eq_true rfl, Nat.le_of_ble_eq_true rfl⟩ ⟨(by show 1 ≤ kk; omega), (by show 6 ≤ nn; omega)⟩ rfl rfl (Nat.le_of_ble_eq_true rfl) (l_bestNight (X := NX) (T := T) hN hO hX (by omega) hR0 ko no (Or.inr (by omega)) (by omega) (fun r5 C5 hR5 hF5 h5 hJ5 => ?_))
  dsimp only [Option.toList, List.cons_append, List.nil_append]
  subst h5
  refine x_istore dL_law_1277 (Nat.le_of_ble_eq_true rfl) ?_
  refine x_aload_n dL_law_1279 rfl ?_
  refine x_aload_n dL_law_1280 rfl ?_
  refine x_iload dL_law_1281 rfl ?_
  refine x_iconst (v := nI 1) dL_law_1283 (by decide) ?_
  refine x_iadd dL_law_1284 ?_
  refine x_tald _ hb dL_law_1285 (nI_add _ _) (by omega) (by omega) ?_
  refine x_callV (As := [_]) 7 hO dL_law_1286 o_X5_bestNight v_X5_bestNight l_L_166 ⟨Nat.le_of_ble_eq_true rfl, Nat.le_of_ble_eq_true rfl⟩ ((hF5.2 _ (by omega) (by omega)).1.trans hM0.2.1.1) ⟨Nat.le_of_ble_eq_true rfl, Nat.le_of_ble_eq_true rfl⟩ rfl ⟨Nat.zero_le _, Nat.zero_le _⟩ rfl rfl (Nat.le_of_ble_eq_true rfl) (r_bestNight (C := C5) (T := T) hO (by omega) (RM_L hM0 hF5 (Nat.le_refl _) (by omega)) (fun r6 f6 hM6 hf6 z6 v6 => ?_))
  dsimp only [Option.toList, List.cons_append, List.nil_append]
  refine x_istore dL_law_1289 (Nat.le_of_ble_eq_true rfl) ?_
  refine x_aload_n dL_law_1291 rfl ?_
  refine x_callV (As := []) 7 hO dL_law_1292 o_X5_thrown v_X5_thrown l_L_101 ⟨Nat.le_of_ble_eq_true rfl, Nat.le_of_ble_eq_true rfl⟩ hM6.2.1.1 ⟨Nat.le_of_ble_eq_true rfl, Nat.le_of_ble_eq_true rfl⟩ rfl ⟨Nat.zero_le _, Nat.zero_le _⟩ rfl rfl (Nat.le_of_ble_eq_true rfl) (r_thrown hO hM6.2.1 ?_)
  dsimp only [Option.toList, List.cons_append, List.nil_append]
  rw [show gI (wI C5 f6) (x + 255) 0 = nI (aBest (S, n, ρ, L, K) (xs (6 * k + 1))).1 from z6]
  refine x_iload dL_law_1295 rfl ?_
  refine x_icmp_eq (tgt := 1302) dL_law_1297 (by decide) (fun c1297 => ?_) (fun c1297 => ?_)
  · refine x_iload dL_law_1302 rfl ?_
    refine x_if_ne (tgt := 1319) dL_law_1304 (by decide) (fun c1304 => ?_) (fun c1304 => ?_)
    · refine x_goto (tgt := 1702) dL_law_1319 (by decide) ?_
      refine x_ls [(0, .ref b), (1, .ref x), (2, .ref (x + 255)), (3, .ref (x + 269)), (4, .int (nI (6 * k)))] ⟨rfl, rfl, rfl, rfl, rfl, trivial⟩ ?_
      exact hq _ _ _ _ (by show kk - 4 ≤ kk - 1 - 0 - 0; omega) (by show nn - 32 ≤ nn - 6 - 0 - 0; omega) (LwI_next hI hR5 hF5 hM6 hf6 (by omega))
    · have h0 : (aBest (S, n, ρ, L, K) (xs (6 * k + 1))).1 = 0 := (nI_z ab_bestNight).mp c1304
      have v6 := v6 h0
      subst v6
      have ko9 : gK (wI C5 f6) (x + 269) = 24 := (hF5.2 _ (by omega) (by omega)).1.trans ko
      have no9 : gN (wI C5 f6) (x + 269) = 1 := (hF5.2 _ (by omega) (by omega)).2.1.trans no
      refine x_aload_n dL_law_1307 rfl ?_
      refine x_iconst (v := nI 0) dL_law_1308 (by decide) ?_
      refine x_lald 0 1 hO dL_law_1309 ko9 rfl no9 (by decide) (by decide) ?_
      rw [show gJ (wI C5 f6) (x + 269) 0 = (aBest (S, n, ρ, L, K) (xs (6 * k + 1))).2.1.toInt64 from hJ5 h0]
      refine x_iload dL_law_1310 rfl ?_
      refine x_i2l dL_law_1312 ?_
      refine x_lcmp dL_law_1313 ?_
      refine x_if_eq (tgt := 1319) dL_law_1314 (by decide) (fun c1314 => ?_) (fun c1314 => ?_)
      · refine x_goto (tgt := 1702) dL_law_1319 (by decide) ?_
        refine x_ls [(0, .ref b), (1, .ref x), (2, .ref (x + 255)), (3, .ref (x + 269)), (4, .int (nI (6 * k)))] ⟨rfl, rfl, rfl, rfl, rfl, trivial⟩ ?_
        exact hq _ _ _ _ (by show kk - 4 ≤ kk - 1 - 0 - 0; omega) (by show nn - 32 ≤ nn - 6 - 0 - 0; omega) (LwI_next hI hR5 hF5 hM6 hf6 (by omega))
      · exact absurd lg_self c1314
  · exact absurd rfl c1297

theorem lc_ifPlugged {nm : String} {G : GT} {C : AH} {Q : QT} {sa va : Nat → Nat} {x b N T k kk nn : Nat} {xs : Nat → Int32} {s : St} (hO : GO G) (hX : GX G sa va) (hN : GN G) (hb : eT G .int b N (fun j => .int (xs j))) (hT : T ≤ 39000) (h6 : 6000 ≤ T) (hI : LwI C x T s) (hk : 6 * k + 6 ≤ N) (hL : N ≤ 3072) (hkk : 4 ≤ kk) (hnn : 32 ≤ nn) (hq : ∀ (C' : AH) (s' : St) (k' n' : Nat), kk - 4 ≤ k' → nn - 32 ≤ n' → LwI C' x (T + 48) s' → Ex G (M_law nm) Q NX k' n' 1702 [(0, .ref b), (1, .ref x), (2, .ref (x + 255)), (3, .ref (x + 269)), (4, .int (nI (6 * k)))] [] C') : Ex G (M_law nm) Q NX kk nn 1322 [(0, .ref b), (1, .ref x), (2, .ref (x + 255)), (3, .ref (x + 269)), (4, .int (nI (6 * k)))] [] C := by
  obtain ⟨S, n, ρ, L, K⟩ := s
  obtain ⟨hR0, hM0, ko, no, hz⟩ := id hI
  refine x_aload_n dL_law_1322 rfl ?_
  refine x_aload_n dL_law_1323 rfl ?_
  refine x_iload dL_law_1324 rfl ?_
  refine x_iconst (v := nI 1) dL_law_1326 (by decide) ?_
  refine x_iadd dL_law_1327 ?_
  refine x_tald _ hb dL_law_1328 (nI_add _ _) (by omega) (by omega) ?_
  refine x_aload_n dL_law_1329 rfl ?_
  refine x_iload dL_law_1330 rfl ?_
  refine x_iconst (v := nI 2) dL_law_1332 (by decide) ?_
  refine x_iadd dL_law_1333 ?_
  refine x_tald _ hb dL_law_1334 (nI_add _ _) (by omega) (by omega) ?_
  refine x_aload_n dL_law_1335 rfl ?_
  refine x_callSX (As := [_, _, _, _]) hO dL_law_1336 o_L_ifPlugged s_L_ifPlugged l_L_167 ⟨Nat.le_of_ble_eq_true rfl, Nat.le_of_ble_eq_true rfl⟩ ⟨(by show 3 ≤ kk; omega), (by show 18 ≤ nn; omega)⟩ rfl rfl (Nat.le_of_ble_eq_true rfl) (l_ifPlugged (X := NX) (T := T) hN hO hX (by omega) hR0 ko no (Or.inr (by omega)) (by omega) (fun r5 C5 hR5 hF5 h5 hJ5 => ?_))
  dsimp only [Option.toList, List.cons_append, List.nil_append]
  subst h5
  refine x_istore dL_law_1339 (Nat.le_of_ble_eq_true rfl) ?_
  refine x_aload_n dL_law_1341 rfl ?_
  refine x_aload_n dL_law_1342 rfl ?_
  refine x_iload dL_law_1343 rfl ?_
  refine x_iconst (v := nI 1) dL_law_1345 (by decide) ?_
  refine x_iadd dL_law_1346 ?_
  refine x_tald _ hb dL_law_1347 (nI_add _ _) (by omega) (by omega) ?_
  refine x_aload_n dL_law_1348 rfl ?_
  refine x_iload dL_law_1349 rfl ?_
  refine x_iconst (v := nI 2) dL_law_1351 (by decide) ?_
  refine x_iadd dL_law_1352 ?_
  refine x_tald _ hb dL_law_1353 (nI_add _ _) (by omega) (by omega) ?_
  refine x_callV (As := [_, _]) 7 hO dL_law_1354 o_X5_ifPlugged v_X5_ifPlugged l_L_169 ⟨Nat.le_of_ble_eq_true rfl, Nat.le_of_ble_eq_true rfl⟩ ((hF5.2 _ (by omega) (by omega)).1.trans hM0.2.1.1) ⟨Nat.le_of_ble_eq_true rfl, Nat.le_of_ble_eq_true rfl⟩ rfl ⟨Nat.zero_le _, Nat.zero_le _⟩ rfl rfl (Nat.le_of_ble_eq_true rfl) (r_ifPlugged (C := C5) (T := T) hO (by omega) (RM_L hM0 hF5 (Nat.le_refl _) (by omega)) (fun r6 f6 hM6 hf6 z6 v6 => ?_))
  dsimp only [Option.toList, List.cons_append, List.nil_append]
  refine x_istore dL_law_1357 (Nat.le_of_ble_eq_true rfl) ?_
  refine x_aload_n dL_law_1359 rfl ?_
  refine x_callV (As := []) 7 hO dL_law_1360 o_X5_thrown v_X5_thrown l_L_101 ⟨Nat.le_of_ble_eq_true rfl, Nat.le_of_ble_eq_true rfl⟩ hM6.2.1.1 ⟨Nat.le_of_ble_eq_true rfl, Nat.le_of_ble_eq_true rfl⟩ rfl ⟨Nat.zero_le _, Nat.zero_le _⟩ rfl rfl (Nat.le_of_ble_eq_true rfl) (r_thrown hO hM6.2.1 ?_)
  dsimp only [Option.toList, List.cons_append, List.nil_append]
  rw [show gI (wI C5 f6) (x + 255) 0 = nI (aIfP (S, n, ρ, L, K) (xs (6 * k + 1)) (xs (6 * k + 2))).1 from z6]
  refine x_iload dL_law_1363 rfl ?_
  refine x_icmp_eq (tgt := 1370) dL_law_1365 (by decide) (fun c1365 => ?_) (fun c1365 => ?_)
  · refine x_iload dL_law_1370 rfl ?_
    refine x_if_ne (tgt := 1387) dL_law_1372 (by decide) (fun c1372 => ?_) (fun c1372 => ?_)
    · refine x_goto (tgt := 1702) dL_law_1387 (by decide) ?_
      refine x_ls [(0, .ref b), (1, .ref x), (2, .ref (x + 255)), (3, .ref (x + 269)), (4, .int (nI (6 * k)))] ⟨rfl, rfl, rfl, rfl, rfl, trivial⟩ ?_
      exact hq _ _ _ _ (by show kk - 4 ≤ kk - 3 - 0 - 0; omega) (by show nn - 32 ≤ nn - 18 - 0 - 0; omega) (LwI_next hI hR5 hF5 hM6 hf6 (by omega))
    · have h0 : (aIfP (S, n, ρ, L, K) (xs (6 * k + 1)) (xs (6 * k + 2))).1 = 0 := (nI_z ab_ifPlugged).mp c1372
      have v6 := v6 h0
      subst v6
      have ko9 : gK (wI C5 f6) (x + 269) = 24 := (hF5.2 _ (by omega) (by omega)).1.trans ko
      have no9 : gN (wI C5 f6) (x + 269) = 1 := (hF5.2 _ (by omega) (by omega)).2.1.trans no
      refine x_aload_n dL_law_1375 rfl ?_
      refine x_iconst (v := nI 0) dL_law_1376 (by decide) ?_
      refine x_lald 0 1 hO dL_law_1377 ko9 rfl no9 (by decide) (by decide) ?_
      rw [show gJ (wI C5 f6) (x + 269) 0 = (aIfP (S, n, ρ, L, K) (xs (6 * k + 1)) (xs (6 * k + 2))).2.1.toInt64 from hJ5 h0]
      refine x_iload dL_law_1378 rfl ?_
      refine x_i2l dL_law_1380 ?_
      refine x_lcmp dL_law_1381 ?_
      refine x_if_eq (tgt := 1387) dL_law_1382 (by decide) (fun c1382 => ?_) (fun c1382 => ?_)
      · refine x_goto (tgt := 1702) dL_law_1387 (by decide) ?_
        refine x_ls [(0, .ref b), (1, .ref x), (2, .ref (x + 255)), (3, .ref (x + 269)), (4, .int (nI (6 * k)))] ⟨rfl, rfl, rfl, rfl, rfl, trivial⟩ ?_
        exact hq _ _ _ _ (by show kk - 4 ≤ kk - 3 - 0 - 0; omega) (by show nn - 32 ≤ nn - 18 - 0 - 0; omega) (LwI_next hI hR5 hF5 hM6 hf6 (by omega))
      · exact absurd lg_self c1382
  · exact absurd rfl c1365

theorem lc_runScript {nm : String} {G : GT} {C : AH} {Q : QT} {sa va : Nat → Nat} {x b N T k kk nn : Nat} {xs : Nat → Int32} {s : St} (hO : GO G) (hX : GX G sa va) (hN : GN G) (hb : eT G .int b N (fun j => .int (xs j))) (hT : T ≤ 39000) (h6 : 6000 ≤ T) (hI : LwI C x T s) (hk : 6 * k + 6 ≤ N) (hL : N ≤ 3072) (hkk : 4 ≤ kk) (hnn : 32 ≤ nn) (hq : ∀ (C' : AH) (s' : St) (k' n' : Nat), kk - 4 ≤ k' → nn - 32 ≤ n' → LwI C' x (T + 48) s' → Ex G (M_law nm) Q NX k' n' 1702 [(0, .ref b), (1, .ref x), (2, .ref (x + 255)), (3, .ref (x + 269)), (4, .int (nI (6 * k)))] [] C') : Ex G (M_law nm) Q NX kk nn 1390 [(0, .ref b), (1, .ref x), (2, .ref (x + 255)), (3, .ref (x + 269)), (4, .int (nI (6 * k)))] [] C := by
  obtain ⟨S, n, ρ, L, K⟩ := s
  obtain ⟨hR0, hM0, ko, no, hz⟩ := id hI
  obtain ⟨V, hV⟩ : ∃ V : Int64, V = ((xs (6 * k + 2)).toInt64 <<< ((nI 32).toInt64 &&& 63) ||| (xs (6 * k + 3)).toInt64 &&& 4294967295) := ⟨_, rfl⟩
  refine x_aload_n dL_law_1390 rfl ?_
  refine x_aload_n dL_law_1391 rfl ?_
  refine x_iload dL_law_1392 rfl ?_
  refine x_iconst (v := nI 1) dL_law_1394 (by decide) ?_
  refine x_iadd dL_law_1395 ?_
  refine x_tald _ hb dL_law_1396 (nI_add _ _) (by omega) (by omega) ?_
  refine x_aload_n dL_law_1397 rfl ?_
  refine x_iload dL_law_1398 rfl ?_
  refine x_iconst (v := nI 2) dL_law_1400 (by decide) ?_
  refine x_iadd dL_law_1401 ?_
  refine x_tald _ hb dL_law_1402 (nI_add _ _) (by omega) (by omega) ?_
  refine x_i2l dL_law_1403 ?_
  refine x_bipush (v := nI 32) dL_law_1404 (by decide) ?_
  refine x_lshl dL_law_1406 rfl ?_
  refine x_aload_n dL_law_1407 rfl ?_
  refine x_iload dL_law_1408 rfl ?_
  refine x_iconst (v := nI 3) dL_law_1410 (by decide) ?_
  refine x_iadd dL_law_1411 ?_
  refine x_tald _ hb dL_law_1412 (nI_add _ _) (by omega) (by omega) ?_
  refine x_i2l dL_law_1413 ?_
  refine x_ldc2 hO.1 dL_law_1414 k_L_170 ?_
  refine x_land dL_law_1417 ?_
  refine x_lor dL_law_1418 ?_
  rw [← hV]
  refine x_aload_n dL_law_1419 rfl ?_
  refine x_callSX (As := [_, _, _, _]) hO dL_law_1420 o_L_runScript s_L_runScript l_L_172 ⟨Nat.le_of_ble_eq_true rfl, Nat.le_of_ble_eq_true rfl⟩ ⟨(by show 2 ≤ kk; omega), (by show 12 ≤ nn; omega)⟩ rfl rfl (Nat.le_of_ble_eq_true rfl) (l_runScript (X := NX) (T := T) hN hO hX (by omega) hR0 ko no (Or.inr (by omega)) (by omega) (fun r5 C5 hR5 hF5 h5 hJ5 => ?_))
  dsimp only [Option.toList, List.cons_append, List.nil_append]
  subst h5
  refine x_istore dL_law_1423 (Nat.le_of_ble_eq_true rfl) ?_
  refine x_aload_n dL_law_1425 rfl ?_
  refine x_aload_n dL_law_1426 rfl ?_
  refine x_iload dL_law_1427 rfl ?_
  refine x_iconst (v := nI 1) dL_law_1429 (by decide) ?_
  refine x_iadd dL_law_1430 ?_
  refine x_tald _ hb dL_law_1431 (nI_add _ _) (by omega) (by omega) ?_
  refine x_aload_n dL_law_1432 rfl ?_
  refine x_iload dL_law_1433 rfl ?_
  refine x_iconst (v := nI 2) dL_law_1435 (by decide) ?_
  refine x_iadd dL_law_1436 ?_
  refine x_tald _ hb dL_law_1437 (nI_add _ _) (by omega) (by omega) ?_
  refine x_i2l dL_law_1438 ?_
  refine x_bipush (v := nI 32) dL_law_1439 (by decide) ?_
  refine x_lshl dL_law_1441 rfl ?_
  refine x_aload_n dL_law_1442 rfl ?_
  refine x_iload dL_law_1443 rfl ?_
  refine x_iconst (v := nI 3) dL_law_1445 (by decide) ?_
  refine x_iadd dL_law_1446 ?_
  refine x_tald _ hb dL_law_1447 (nI_add _ _) (by omega) (by omega) ?_
  refine x_i2l dL_law_1448 ?_
  refine x_ldc2 hO.1 dL_law_1449 k_L_170 ?_
  refine x_land dL_law_1452 ?_
  refine x_lor dL_law_1453 ?_
  rw [← hV]
  refine x_callV (As := [_, _]) 7 hO dL_law_1454 o_X5_runScript v_X5_runScript l_L_175 ⟨Nat.le_of_ble_eq_true rfl, Nat.le_of_ble_eq_true rfl⟩ ((hF5.2 _ (by omega) (by omega)).1.trans hM0.2.1.1) ⟨Nat.le_of_ble_eq_true rfl, Nat.le_of_ble_eq_true rfl⟩ rfl ⟨Nat.zero_le _, Nat.zero_le _⟩ rfl rfl (Nat.le_of_ble_eq_true rfl) (r_runScript (C := C5) (T := T) hO (by omega) (RM_L hM0 hF5 (Nat.le_refl _) (by omega)) (fun r6 f6 hM6 hf6 z6 v6 => ?_))
  dsimp only [Option.toList, List.cons_append, List.nil_append]
  refine x_istore dL_law_1457 (Nat.le_of_ble_eq_true rfl) ?_
  refine x_aload_n dL_law_1459 rfl ?_
  refine x_callV (As := []) 7 hO dL_law_1460 o_X5_thrown v_X5_thrown l_L_101 ⟨Nat.le_of_ble_eq_true rfl, Nat.le_of_ble_eq_true rfl⟩ hM6.2.1.1 ⟨Nat.le_of_ble_eq_true rfl, Nat.le_of_ble_eq_true rfl⟩ rfl ⟨Nat.zero_le _, Nat.zero_le _⟩ rfl rfl (Nat.le_of_ble_eq_true rfl) (r_thrown hO hM6.2.1 ?_)
  dsimp only [Option.toList, List.cons_append, List.nil_append]
  rw [show gI (wI C5 f6) (x + 255) 0 = nI (aScript (S, n, ρ, L, K) (xs (6 * k + 1)) V).1 from z6]
  refine x_iload dL_law_1463 rfl ?_
  refine x_icmp_eq (tgt := 1470) dL_law_1465 (by decide) (fun c1465 => ?_) (fun c1465 => ?_)
  · refine x_iload dL_law_1470 rfl ?_
    refine x_if_ne (tgt := 1487) dL_law_1472 (by decide) (fun c1472 => ?_) (fun c1472 => ?_)
    · refine x_goto (tgt := 1702) dL_law_1487 (by decide) ?_
      refine x_ls [(0, .ref b), (1, .ref x), (2, .ref (x + 255)), (3, .ref (x + 269)), (4, .int (nI (6 * k)))] ⟨rfl, rfl, rfl, rfl, rfl, trivial⟩ ?_
      exact hq _ _ _ _ (by show kk - 4 ≤ kk - 2 - 0 - 0; omega) (by show nn - 32 ≤ nn - 12 - 0 - 0; omega) (LwI_next hI hR5 hF5 hM6 hf6 (by omega))
    · have h0 : (aScript (S, n, ρ, L, K) (xs (6 * k + 1)) V).1 = 0 := (nI_z ab_runScript).mp c1472
      have v6 := v6 h0
      subst v6
      have ko9 : gK (wI C5 f6) (x + 269) = 24 := (hF5.2 _ (by omega) (by omega)).1.trans ko
      have no9 : gN (wI C5 f6) (x + 269) = 1 := (hF5.2 _ (by omega) (by omega)).2.1.trans no
      refine x_aload_n dL_law_1475 rfl ?_
      refine x_iconst (v := nI 0) dL_law_1476 (by decide) ?_
      refine x_lald 0 1 hO dL_law_1477 ko9 rfl no9 (by decide) (by decide) ?_
      rw [show gJ (wI C5 f6) (x + 269) 0 = (aScript (S, n, ρ, L, K) (xs (6 * k + 1)) V).2.1.toInt64 from hJ5 h0]
      refine x_iload dL_law_1478 rfl ?_
      refine x_i2l dL_law_1480 ?_
      refine x_lcmp dL_law_1481 ?_
      refine x_if_eq (tgt := 1487) dL_law_1482 (by decide) (fun c1482 => ?_) (fun c1482 => ?_)
      · refine x_goto (tgt := 1702) dL_law_1487 (by decide) ?_
        refine x_ls [(0, .ref b), (1, .ref x), (2, .ref (x + 255)), (3, .ref (x + 269)), (4, .int (nI (6 * k)))] ⟨rfl, rfl, rfl, rfl, rfl, trivial⟩ ?_
        exact hq _ _ _ _ (by show kk - 4 ≤ kk - 2 - 0 - 0; omega) (by show nn - 32 ≤ nn - 12 - 0 - 0; omega) (LwI_next hI hR5 hF5 hM6 hf6 (by omega))
      · exact absurd lg_self c1482
  · exact absurd rfl c1465

theorem lc_simulate {nm : String} {G : GT} {C : AH} {Q : QT} {sa va : Nat → Nat} {x b N T k kk nn : Nat} {xs : Nat → Int32} {s : St} (hO : GO G) (hX : GX G sa va) (hN : GN G) (hb : eT G .int b N (fun j => .int (xs j))) (hT : T ≤ 39000) (h6 : 6000 ≤ T) (hI : LwI C x T s) (hk : 6 * k + 6 ≤ N) (hL : N ≤ 3072) (hkk : 4 ≤ kk) (hnn : 32 ≤ nn) (hq : ∀ (C' : AH) (s' : St) (k' n' : Nat), kk - 4 ≤ k' → nn - 32 ≤ n' → LwI C' x (T + 48) s' → Ex G (M_law nm) Q NX k' n' 1702 [(0, .ref b), (1, .ref x), (2, .ref (x + 255)), (3, .ref (x + 269)), (4, .int (nI (6 * k)))] [] C') : Ex G (M_law nm) Q NX kk nn 1490 [(0, .ref b), (1, .ref x), (2, .ref (x + 255)), (3, .ref (x + 269)), (4, .int (nI (6 * k)))] [] C := by
  obtain ⟨S, n, ρ, L, K⟩ := s
  obtain ⟨hR0, hM0, ko, no, hz⟩ := id hI
  obtain ⟨V, hV⟩ : ∃ V : Int64, V = ((xs (6 * k + 1)).toInt64 <<< ((nI 32).toInt64 &&& 63) ||| (xs (6 * k + 2)).toInt64 &&& 4294967295) := ⟨_, rfl⟩
  refine x_aload_n dL_law_1490 rfl ?_
  refine x_aload_n dL_law_1491 rfl ?_
  refine x_iload dL_law_1492 rfl ?_
  refine x_iconst (v := nI 1) dL_law_1494 (by decide) ?_
  refine x_iadd dL_law_1495 ?_
  refine x_tald _ hb dL_law_1496 (nI_add _ _) (by omega) (by omega) ?_
  refine x_i2l dL_law_1497 ?_
  refine x_bipush (v := nI 32) dL_law_1498 (by decide) ?_
  refine x_lshl dL_law_1500 rfl ?_
  refine x_aload_n dL_law_1501 rfl ?_
  refine x_iload dL_law_1502 rfl ?_
  refine x_iconst (v := nI 2) dL_law_1504 (by decide) ?_
  refine x_iadd dL_law_1505 ?_
  refine x_tald _ hb dL_law_1506 (nI_add _ _) (by omega) (by omega) ?_
  refine x_i2l dL_law_1507 ?_
  refine x_ldc2 hO.1 dL_law_1508 k_L_170 ?_
  refine x_land dL_law_1511 ?_
  refine x_lor dL_law_1512 ?_
  rw [← hV]
  refine x_aload_n dL_law_1513 rfl ?_
  refine x_iload dL_law_1514 rfl ?_
  refine x_iconst (v := nI 3) dL_law_1516 (by decide) ?_
  refine x_iadd dL_law_1517 ?_
  refine x_tald _ hb dL_law_1518 (nI_add _ _) (by omega) (by omega) ?_
  refine x_aload_n dL_law_1519 rfl ?_
  refine x_callSX (As := [_, _, _, _]) hO dL_law_1520 o_L_simulate s_L_simulate l_L_176 ⟨Nat.le_of_ble_eq_true rfl, Nat.le_of_ble_eq_true rfl⟩ ⟨(by show 1 ≤ kk; omega), (by show 6 ≤ nn; omega)⟩ rfl rfl (Nat.le_of_ble_eq_true rfl) (l_simulate (X := NX) (T := T) hN hO hX (by omega) hR0 ko no (Or.inr (by omega)) (by omega) (fun r5 C5 hR5 hF5 h5 hJ5 => ?_))
  dsimp only [Option.toList, List.cons_append, List.nil_append]
  subst h5
  refine x_istore dL_law_1523 (Nat.le_of_ble_eq_true rfl) ?_
  refine x_aload_n dL_law_1525 rfl ?_
  refine x_aload_n dL_law_1526 rfl ?_
  refine x_iload dL_law_1527 rfl ?_
  refine x_iconst (v := nI 1) dL_law_1529 (by decide) ?_
  refine x_iadd dL_law_1530 ?_
  refine x_tald _ hb dL_law_1531 (nI_add _ _) (by omega) (by omega) ?_
  refine x_i2l dL_law_1532 ?_
  refine x_bipush (v := nI 32) dL_law_1533 (by decide) ?_
  refine x_lshl dL_law_1535 rfl ?_
  refine x_aload_n dL_law_1536 rfl ?_
  refine x_iload dL_law_1537 rfl ?_
  refine x_iconst (v := nI 2) dL_law_1539 (by decide) ?_
  refine x_iadd dL_law_1540 ?_
  refine x_tald _ hb dL_law_1541 (nI_add _ _) (by omega) (by omega) ?_
  refine x_i2l dL_law_1542 ?_
  refine x_ldc2 hO.1 dL_law_1543 k_L_170 ?_
  refine x_land dL_law_1546 ?_
  refine x_lor dL_law_1547 ?_
  rw [← hV]
  refine x_aload_n dL_law_1548 rfl ?_
  refine x_iload dL_law_1549 rfl ?_
  refine x_iconst (v := nI 3) dL_law_1551 (by decide) ?_
  refine x_iadd dL_law_1552 ?_
  refine x_tald _ hb dL_law_1553 (nI_add _ _) (by omega) (by omega) ?_
  refine x_callV (As := [_, _]) 7 hO dL_law_1554 o_X5_simulate v_X5_simulate l_L_179 ⟨Nat.le_of_ble_eq_true rfl, Nat.le_of_ble_eq_true rfl⟩ ((hF5.2 _ (by omega) (by omega)).1.trans hM0.2.1.1) ⟨Nat.le_of_ble_eq_true rfl, Nat.le_of_ble_eq_true rfl⟩ rfl ⟨Nat.zero_le _, Nat.zero_le _⟩ rfl rfl (Nat.le_of_ble_eq_true rfl) (r_simulate (C := C5) (T := T) hO (by omega) (RM_L hM0 hF5 (Nat.le_refl _) (by omega)) (fun r6 f6 hM6 hf6 z6 v6 => ?_))
  dsimp only [Option.toList, List.cons_append, List.nil_append]
  refine x_istore dL_law_1557 (Nat.le_of_ble_eq_true rfl) ?_
  refine x_aload_n dL_law_1559 rfl ?_
  refine x_callV (As := []) 7 hO dL_law_1560 o_X5_thrown v_X5_thrown l_L_101 ⟨Nat.le_of_ble_eq_true rfl, Nat.le_of_ble_eq_true rfl⟩ hM6.2.1.1 ⟨Nat.le_of_ble_eq_true rfl, Nat.le_of_ble_eq_true rfl⟩ rfl ⟨Nat.zero_le _, Nat.zero_le _⟩ rfl rfl (Nat.le_of_ble_eq_true rfl) (r_thrown hO hM6.2.1 ?_)
  dsimp only [Option.toList, List.cons_append, List.nil_append]
  rw [show gI (wI C5 f6) (x + 255) 0 = nI (aSim (S, n, ρ, L, K) V (xs (6 * k + 3))).1 from z6]
  refine x_iload dL_law_1563 rfl ?_
  refine x_icmp_eq (tgt := 1570) dL_law_1565 (by decide) (fun c1565 => ?_) (fun c1565 => ?_)
  · refine x_iload dL_law_1570 rfl ?_
    refine x_if_ne (tgt := 1587) dL_law_1572 (by decide) (fun c1572 => ?_) (fun c1572 => ?_)
    · refine x_goto (tgt := 1702) dL_law_1587 (by decide) ?_
      refine x_ls [(0, .ref b), (1, .ref x), (2, .ref (x + 255)), (3, .ref (x + 269)), (4, .int (nI (6 * k)))] ⟨rfl, rfl, rfl, rfl, rfl, trivial⟩ ?_
      exact hq _ _ _ _ (by show kk - 4 ≤ kk - 1 - 0 - 0; omega) (by show nn - 32 ≤ nn - 6 - 0 - 0; omega) (LwI_next hI hR5 hF5 hM6 hf6 (by omega))
    · have h0 : (aSim (S, n, ρ, L, K) V (xs (6 * k + 3))).1 = 0 := (nI_z ab_simulate).mp c1572
      have v6 := v6 h0
      subst v6
      have ko9 : gK (wI C5 f6) (x + 269) = 24 := (hF5.2 _ (by omega) (by omega)).1.trans ko
      have no9 : gN (wI C5 f6) (x + 269) = 1 := (hF5.2 _ (by omega) (by omega)).2.1.trans no
      refine x_aload_n dL_law_1575 rfl ?_
      refine x_iconst (v := nI 0) dL_law_1576 (by decide) ?_
      refine x_lald 0 1 hO dL_law_1577 ko9 rfl no9 (by decide) (by decide) ?_
      rw [show gJ (wI C5 f6) (x + 269) 0 = (aSim (S, n, ρ, L, K) V (xs (6 * k + 3))).2.1.toInt64 from hJ5 h0]
      refine x_iload dL_law_1578 rfl ?_
      refine x_i2l dL_law_1580 ?_
      refine x_lcmp dL_law_1581 ?_
      refine x_if_eq (tgt := 1587) dL_law_1582 (by decide) (fun c1582 => ?_) (fun c1582 => ?_)
      · refine x_goto (tgt := 1702) dL_law_1587 (by decide) ?_
        refine x_ls [(0, .ref b), (1, .ref x), (2, .ref (x + 255)), (3, .ref (x + 269)), (4, .int (nI (6 * k)))] ⟨rfl, rfl, rfl, rfl, rfl, trivial⟩ ?_
        exact hq _ _ _ _ (by show kk - 4 ≤ kk - 1 - 0 - 0; omega) (by show nn - 32 ≤ nn - 6 - 0 - 0; omega) (LwI_next hI hR5 hF5 hM6 hf6 (by omega))
      · exact absurd lg_self c1582
  · exact absurd rfl c1565

theorem lc_save {nm : String} {G : GT} {C : AH} {Q : QT} {sa va : Nat → Nat} {x b N T k kk nn : Nat} {xs : Nat → Int32} {s : St} (hO : GO G) (hX : GX G sa va) (hN : GN G) (hb : eT G .int b N (fun j => .int (xs j))) (hT : T ≤ 39000) (h6 : 6000 ≤ T) (hI : LwI C x T s) (hk : 6 * k + 6 ≤ N) (hL : N ≤ 3072) (hkk : 4 ≤ kk) (hnn : 32 ≤ nn) (hq : ∀ (C' : AH) (s' : St) (k' n' : Nat), kk - 4 ≤ k' → nn - 32 ≤ n' → LwI C' x (T + 48) s' → Ex G (M_law nm) Q NX k' n' 1702 [(0, .ref b), (1, .ref x), (2, .ref (x + 255)), (3, .ref (x + 269)), (4, .int (nI (6 * k)))] [] C') : Ex G (M_law nm) Q NX kk nn 1590 [(0, .ref b), (1, .ref x), (2, .ref (x + 255)), (3, .ref (x + 269)), (4, .int (nI (6 * k)))] [] C := by
  obtain ⟨S, n, ρ, L, K⟩ := s
  obtain ⟨hR0, hM0, ko, no, hz⟩ := id hI
  refine x_aload_n dL_law_1590 rfl ?_
  refine x_aload_n dL_law_1591 rfl ?_
  refine x_iload dL_law_1592 rfl ?_
  refine x_iconst (v := nI 1) dL_law_1594 (by decide) ?_
  refine x_iadd dL_law_1595 ?_
  refine x_tald _ hb dL_law_1596 (nI_add _ _) (by omega) (by omega) ?_
  refine x_aload_n dL_law_1597 rfl ?_
  refine x_callSX (As := [_, _, _]) hO dL_law_1598 o_L_save s_L_save l_L_180 ⟨Nat.le_of_ble_eq_true rfl, Nat.le_of_ble_eq_true rfl⟩ ⟨(by show 1 ≤ kk; omega), (by show 6 ≤ nn; omega)⟩ rfl rfl (Nat.le_of_ble_eq_true rfl) (l_save (X := NX) (T := T) hN hO hX (by omega) hR0 ko no (Or.inr (by omega)) (by omega) (fun r5 C5 hR5 hF5 h5 hJ5 => ?_))
  dsimp only [Option.toList, List.cons_append, List.nil_append]
  subst h5
  refine x_istore dL_law_1601 (Nat.le_of_ble_eq_true rfl) ?_
  refine x_aload_n dL_law_1603 rfl ?_
  refine x_aload_n dL_law_1604 rfl ?_
  refine x_iload dL_law_1605 rfl ?_
  refine x_iconst (v := nI 1) dL_law_1607 (by decide) ?_
  refine x_iadd dL_law_1608 ?_
  refine x_tald _ hb dL_law_1609 (nI_add _ _) (by omega) (by omega) ?_
  refine x_callV (As := [_]) 7 hO dL_law_1610 o_X5_save v_X5_save l_L_182 ⟨Nat.le_of_ble_eq_true rfl, Nat.le_of_ble_eq_true rfl⟩ ((hF5.2 _ (by omega) (by omega)).1.trans hM0.2.1.1) ⟨Nat.le_of_ble_eq_true rfl, Nat.le_of_ble_eq_true rfl⟩ rfl ⟨Nat.zero_le _, Nat.zero_le _⟩ rfl rfl (Nat.le_of_ble_eq_true rfl) (r_save (C := C5) (T := T) hO (by omega) (RM_L hM0 hF5 (Nat.le_refl _) (by omega)) (fun r6 f6 hM6 hf6 z6 v6 => ?_))
  dsimp only [Option.toList, List.cons_append, List.nil_append]
  refine x_istore dL_law_1613 (Nat.le_of_ble_eq_true rfl) ?_
  refine x_aload_n dL_law_1615 rfl ?_
  refine x_callV (As := []) 7 hO dL_law_1616 o_X5_thrown v_X5_thrown l_L_101 ⟨Nat.le_of_ble_eq_true rfl, Nat.le_of_ble_eq_true rfl⟩ hM6.2.1.1 ⟨Nat.le_of_ble_eq_true rfl, Nat.le_of_ble_eq_true rfl⟩ rfl ⟨Nat.zero_le _, Nat.zero_le _⟩ rfl rfl (Nat.le_of_ble_eq_true rfl) (r_thrown hO hM6.2.1 ?_)
  dsimp only [Option.toList, List.cons_append, List.nil_append]
  rw [show gI (wI C5 f6) (x + 255) 0 = nI (aSave (S, n, ρ, L, K) (xs (6 * k + 1))).1 from z6]
  refine x_iload dL_law_1619 rfl ?_
  refine x_icmp_eq (tgt := 1626) dL_law_1621 (by decide) (fun c1621 => ?_) (fun c1621 => ?_)
  · refine x_iload dL_law_1626 rfl ?_
    refine x_if_ne (tgt := 1643) dL_law_1628 (by decide) (fun c1628 => ?_) (fun c1628 => ?_)
    · refine x_goto (tgt := 1702) dL_law_1643 (by decide) ?_
      refine x_ls [(0, .ref b), (1, .ref x), (2, .ref (x + 255)), (3, .ref (x + 269)), (4, .int (nI (6 * k)))] ⟨rfl, rfl, rfl, rfl, rfl, trivial⟩ ?_
      exact hq _ _ _ _ (by show kk - 4 ≤ kk - 1 - 0 - 0; omega) (by show nn - 32 ≤ nn - 6 - 0 - 0; omega) (LwI_next hI hR5 hF5 hM6 hf6 (by omega))
    · have h0 : (aSave (S, n, ρ, L, K) (xs (6 * k + 1))).1 = 0 := (nI_z ab_save).mp c1628
      have v6 := v6 h0
      subst v6
      have ko9 : gK (wI C5 f6) (x + 269) = 24 := (hF5.2 _ (by omega) (by omega)).1.trans ko
      have no9 : gN (wI C5 f6) (x + 269) = 1 := (hF5.2 _ (by omega) (by omega)).2.1.trans no
      refine x_aload_n dL_law_1631 rfl ?_
      refine x_iconst (v := nI 0) dL_law_1632 (by decide) ?_
      refine x_lald 0 1 hO dL_law_1633 ko9 rfl no9 (by decide) (by decide) ?_
      rw [show gJ (wI C5 f6) (x + 269) 0 = (aSave (S, n, ρ, L, K) (xs (6 * k + 1))).2.1.toInt64 from hJ5 h0]
      refine x_iload dL_law_1634 rfl ?_
      refine x_i2l dL_law_1636 ?_
      refine x_lcmp dL_law_1637 ?_
      refine x_if_eq (tgt := 1643) dL_law_1638 (by decide) (fun c1638 => ?_) (fun c1638 => ?_)
      · refine x_goto (tgt := 1702) dL_law_1643 (by decide) ?_
        refine x_ls [(0, .ref b), (1, .ref x), (2, .ref (x + 255)), (3, .ref (x + 269)), (4, .int (nI (6 * k)))] ⟨rfl, rfl, rfl, rfl, rfl, trivial⟩ ?_
        exact hq _ _ _ _ (by show kk - 4 ≤ kk - 1 - 0 - 0; omega) (by show nn - 32 ≤ nn - 6 - 0 - 0; omega) (LwI_next hI hR5 hF5 hM6 hf6 (by omega))
      · exact absurd lg_self c1638
  · exact absurd rfl c1621

theorem lc_restore {nm : String} {G : GT} {C : AH} {Q : QT} {sa va : Nat → Nat} {x b N T k kk nn : Nat} {xs : Nat → Int32} {s : St} (hO : GO G) (hX : GX G sa va) (hN : GN G) (hb : eT G .int b N (fun j => .int (xs j))) (hT : T ≤ 39000) (h6 : 6000 ≤ T) (hI : LwI C x T s) (hk : 6 * k + 6 ≤ N) (hL : N ≤ 3072) (hkk : 4 ≤ kk) (hnn : 32 ≤ nn) (hq : ∀ (C' : AH) (s' : St) (k' n' : Nat), kk - 4 ≤ k' → nn - 32 ≤ n' → LwI C' x (T + 48) s' → Ex G (M_law nm) Q NX k' n' 1702 [(0, .ref b), (1, .ref x), (2, .ref (x + 255)), (3, .ref (x + 269)), (4, .int (nI (6 * k)))] [] C') : Ex G (M_law nm) Q NX kk nn 1646 [(0, .ref b), (1, .ref x), (2, .ref (x + 255)), (3, .ref (x + 269)), (4, .int (nI (6 * k)))] [] C := by
  obtain ⟨S, n, ρ, L, K⟩ := s
  obtain ⟨hR0, hM0, ko, no, hz⟩ := id hI
  refine x_aload_n dL_law_1646 rfl ?_
  refine x_aload_n dL_law_1647 rfl ?_
  refine x_iload dL_law_1648 rfl ?_
  refine x_iconst (v := nI 1) dL_law_1650 (by decide) ?_
  refine x_iadd dL_law_1651 ?_
  refine x_tald _ hb dL_law_1652 (nI_add _ _) (by omega) (by omega) ?_
  refine x_aload_n dL_law_1653 rfl ?_
  refine x_callSX (As := [_, _, _]) hO dL_law_1654 o_L_restore s_L_restore l_L_183 ⟨Nat.le_of_ble_eq_true rfl, Nat.le_of_ble_eq_true rfl⟩ ⟨(by show 2 ≤ kk; omega), (by show 12 ≤ nn; omega)⟩ rfl rfl (Nat.le_of_ble_eq_true rfl) (l_restore (X := NX) (T := T) hN hO hX (by omega) hR0 ko no (Or.inr (by omega)) (by omega) (fun r5 C5 hR5 hF5 h5 hJ5 => ?_))
  dsimp only [Option.toList, List.cons_append, List.nil_append]
  subst h5
  refine x_istore dL_law_1657 (Nat.le_of_ble_eq_true rfl) ?_
  refine x_aload_n dL_law_1659 rfl ?_
  refine x_aload_n dL_law_1660 rfl ?_
  refine x_iload dL_law_1661 rfl ?_
  refine x_iconst (v := nI 1) dL_law_1663 (by decide) ?_
  refine x_iadd dL_law_1664 ?_
  refine x_tald _ hb dL_law_1665 (nI_add _ _) (by omega) (by omega) ?_
  refine x_callV (As := [_]) 7 hO dL_law_1666 o_X5_restore v_X5_restore l_L_185 ⟨Nat.le_of_ble_eq_true rfl, Nat.le_of_ble_eq_true rfl⟩ ((hF5.2 _ (by omega) (by omega)).1.trans hM0.2.1.1) ⟨Nat.le_of_ble_eq_true rfl, Nat.le_of_ble_eq_true rfl⟩ rfl ⟨Nat.zero_le _, Nat.zero_le _⟩ rfl rfl (Nat.le_of_ble_eq_true rfl) (r_restore (C := C5) (T := T) hO (by omega) (RM_L hM0 hF5 (Nat.le_refl _) (by omega)) (fun r6 f6 hM6 hf6 z6 v6 => ?_))
  dsimp only [Option.toList, List.cons_append, List.nil_append]
  refine x_istore dL_law_1669 (Nat.le_of_ble_eq_true rfl) ?_
  refine x_aload_n dL_law_1671 rfl ?_
  refine x_callV (As := []) 7 hO dL_law_1672 o_X5_thrown v_X5_thrown l_L_101 ⟨Nat.le_of_ble_eq_true rfl, Nat.le_of_ble_eq_true rfl⟩ hM6.2.1.1 ⟨Nat.le_of_ble_eq_true rfl, Nat.le_of_ble_eq_true rfl⟩ rfl ⟨Nat.zero_le _, Nat.zero_le _⟩ rfl rfl (Nat.le_of_ble_eq_true rfl) (r_thrown hO hM6.2.1 ?_)
  dsimp only [Option.toList, List.cons_append, List.nil_append]
  rw [show gI (wI C5 f6) (x + 255) 0 = nI (aRestore (S, n, ρ, L, K) (xs (6 * k + 1))).1 from z6]
  refine x_iload dL_law_1675 rfl ?_
  refine x_icmp_eq (tgt := 1682) dL_law_1677 (by decide) (fun c1677 => ?_) (fun c1677 => ?_)
  · refine x_iload dL_law_1682 rfl ?_
    refine x_if_ne (tgt := 1699) dL_law_1684 (by decide) (fun c1684 => ?_) (fun c1684 => ?_)
    · refine x_goto (tgt := 1702) dL_law_1699 (by decide) ?_
      refine x_ls [(0, .ref b), (1, .ref x), (2, .ref (x + 255)), (3, .ref (x + 269)), (4, .int (nI (6 * k)))] ⟨rfl, rfl, rfl, rfl, rfl, trivial⟩ ?_
      exact hq _ _ _ _ (by show kk - 4 ≤ kk - 2 - 0 - 0; omega) (by show nn - 32 ≤ nn - 12 - 0 - 0; omega) (LwI_next hI hR5 hF5 hM6 hf6 (by omega))
    · have h0 : (aRestore (S, n, ρ, L, K) (xs (6 * k + 1))).1 = 0 := (nI_z ab_restore).mp c1684
      have v6 := v6 h0
      subst v6
      have ko9 : gK (wI C5 f6) (x + 269) = 24 := (hF5.2 _ (by omega) (by omega)).1.trans ko
      have no9 : gN (wI C5 f6) (x + 269) = 1 := (hF5.2 _ (by omega) (by omega)).2.1.trans no
      refine x_aload_n dL_law_1687 rfl ?_
      refine x_iconst (v := nI 0) dL_law_1688 (by decide) ?_
      refine x_lald 0 1 hO dL_law_1689 ko9 rfl no9 (by decide) (by decide) ?_
      rw [show gJ (wI C5 f6) (x + 269) 0 = (aRestore (S, n, ρ, L, K) (xs (6 * k + 1))).2.1.toInt64 from hJ5 h0]
      refine x_iload dL_law_1690 rfl ?_
      refine x_i2l dL_law_1692 ?_
      refine x_lcmp dL_law_1693 ?_
      refine x_if_eq (tgt := 1699) dL_law_1694 (by decide) (fun c1694 => ?_) (fun c1694 => ?_)
      · refine x_goto (tgt := 1702) dL_law_1699 (by decide) ?_
        refine x_ls [(0, .ref b), (1, .ref x), (2, .ref (x + 255)), (3, .ref (x + 269)), (4, .int (nI (6 * k)))] ⟨rfl, rfl, rfl, rfl, rfl, trivial⟩ ?_
        exact hq _ _ _ _ (by show kk - 4 ≤ kk - 2 - 0 - 0; omega) (by show nn - 32 ≤ nn - 12 - 0 - 0; omega) (LwI_next hI hR5 hF5 hM6 hf6 (by omega))
      · exact absurd lg_self c1694
  · exact absurd rfl c1677

