/-! THE LAW: its loop *)-/
theorem and31 (v : Int32) : ∃ c, c < 32 ∧ v &&& nI 31 = nI c := by
  refine ⟨(v &&& nI 31).toBitVec.toNat, ?_, ?_⟩
  · have e : (v &&& nI 31).toBitVec = v.toBitVec &&& (nI 31).toBitVec := rfl
    rw [e, BitVec.toNat_and]
    have h := Nat.and_le_right (n := v.toBitVec.toNat) (m := (nI 31).toBitVec.toNat)
    have e31 : (nI 31).toBitVec.toNat = 31 := by decide
    omega
  · apply Int32.toBitVec_inj.mp
    show (v &&& nI 31).toBitVec = BitVec.ofNat 32 (v &&& nI 31).toBitVec.toNat
    simp
theorem exit_lt {N k : Nat} (h1 : ¬ 6 * k + 6 ≤ N) (h2 : 6 * k ≤ N) (h3 : N ≤ 3072) : nI N - nI 6 < nI (6 * k) := by
  by_cases h : 6 ≤ N
  · rw [pk_sub h]
    exact (nI_ltI (by omega) (by omega)).mpr (by omega)
  · have : k = 0 := by omega
    subst this
    have q : ∀ c : Fin 6, nI c.val - nI 6 < nI (6 * 0) := by decide +kernel
    exact q ⟨N, by omega⟩
theorem LwI_mono {C : AH} {x T U : Nat} {s : St} (h : LwI C x T s) (hU : T ≤ U) : LwI C x U s := ⟨RX_mono h.1 hU, RM_mono h.2.1 hU, h.2.2⟩
theorem l_loop {nm : String} {G : GT} {Q : QT} {sa va : Nat → Nat} {x b N : Nat} {xs : Nat → Int32} (hO : GO G) (hX : GX G sa va) (hN : GN G) (hb : eT G .int b N (fun j => .int (xs j))) (hL : N ≤ 3072) (hq : ∀ C' : AH, Q (some (.int 1)) C') : ∀ (d k : Nat) (C : AH) (s : St) (kk nn : Nat), d + k = 512 → 6 * k ≤ N → LwI C x (6000 + 48 * k) s → 4 * d ≤ kk → 32 * d ≤ nn → Ex G (M_law nm) Q NX kk nn 23 [(0, .ref b), (1, .ref x), (2, .ref (x + 255)), (3, .ref (x + 269)), (4, .int (nI (6 * k)))] [] C := by
  intro d
  induction d with
  | zero =>
    intro k C s kk nn hd h6k hI hkk hnn
    have hc : ¬ 6 * k + 6 ≤ N := by omega
    refine x_iload dL_law_23 rfl ?_
    refine x_aload_n dL_law_25 rfl ?_
    refine x_tlen hb dL_law_26 ?_
    refine x_bipush (v := nI 6) dL_law_27 (by decide) ?_
    refine x_isub dL_law_29 ?_
    refine x_icmp_gt (tgt := 1708) dL_law_30 (by decide) (fun c30 => ?_) (fun c30 => ?_)
    · refine x_iconst (v := nI 1) dL_law_1708 (by decide) ?_
      refine x_iret dL_law_1709 rfl (by decide) ?_
      exact hq C
    · exact absurd (exit_lt hc h6k hL) c30
  | succ d ih =>
    intro k C s kk nn hd h6k hI hkk hnn
    by_cases hc : 6 * k + 6 ≤ N
    · skip
      have nxt : ∀ (C' : AH) (s' : St) (k' n' : Nat), kk - 4 ≤ k' → nn - 32 ≤ n' → LwI C' x (6000 + 48 * k + 48) s' → Ex G (M_law nm) Q NX k' n' 1702 [(0, .ref b), (1, .ref x), (2, .ref (x + 255)), (3, .ref (x + 269)), (4, .int (nI (6 * k)))] [] C' := by
        intro C' s' k' n' q1 q2 hI'
        refine x_iinc (v := nI 6) dL_law_1702 rfl (Nat.le_of_ble_eq_true rfl) (by decide) ?_
        refine x_goto (tgt := 23) dL_law_1705 (by decide) ?_
        refine x_ls [(0, .ref b), (1, .ref x), (2, .ref (x + 255)), (3, .ref (x + 269)), (4, .int (nI (6 * (k + 1))))] ⟨rfl, rfl, rfl, rfl, by rw [show 6 * (k + 1) = 6 * k + 6 by omega, ← nI_add]; rfl, trivial⟩ ?_
        exact ih (k + 1) C' s' k' n' (by omega) (by omega) hI' (by omega) (by omega)
      refine x_iload dL_law_23 rfl ?_
      refine x_aload_n dL_law_25 rfl ?_
      refine x_tlen hb dL_law_26 ?_
      refine x_bipush (v := nI 6) dL_law_27 (by decide) ?_
      refine x_isub dL_law_29 ?_
      rw [pk_sub (by omega)]
      refine x_icmp_gt (tgt := 1708) dL_law_30 (by decide) (fun c30 => ?_) (fun c30 => ?_)
      · simp (disch := omega) only [nI_ltI] at c30
        omega
      · refine x_aload_n dL_law_33 rfl ?_
        refine x_iload dL_law_34 rfl ?_
        refine x_tald (6 * k) hb dL_law_36 rfl (by omega) (by omega) ?_
        refine x_bipush (v := nI 31) dL_law_37 (by decide) ?_
        refine x_iand dL_law_39 ?_
        obtain ⟨c, hc32, ec⟩ := and31 (xs (6 * k))
        rw [ec]
        rcases (show c = 0 ∨ c = 1 ∨ c = 2 ∨ c = 3 ∨ c = 4 ∨ c = 5 ∨ c = 6 ∨ c = 7 ∨ c = 8 ∨ c = 9 ∨ c = 10 ∨ c = 11 ∨ c = 12 ∨ c = 13 ∨ c = 14 ∨ c = 15 ∨ c = 16 ∨ c = 17 ∨ c = 18 ∨ c = 19 ∨ c = 20 ∨ c = 21 ∨ c = 22 ∨ c = 23 ∨ c = 24 ∨ c = 25 ∨ c = 26 ∨ c = 27 ∨ c = 28 ∨ c = 29 ∨ c = 30 ∨ c = 31 by omega) with rfl | rfl | rfl | rfl | rfl | rfl | rfl | rfl | rfl | rfl | rfl | rfl | rfl | rfl | rfl | rfl | rfl | rfl | rfl | rfl | rfl | rfl | rfl | rfl | rfl | rfl | rfl | rfl | rfl | rfl | rfl | rfl
        · refine x_tableIn (off := 116) (tgt := 156) dL_law_40 (by decide +kernel) (by decide +kernel) (by decide +kernel) (by decide) ?_
          exact lc_append hO hX hN hb (by omega) (by omega) hI hc hL (by omega) (by omega) nxt
        · refine x_tableIn (off := 172) (tgt := 212) dL_law_40 (by decide +kernel) (by decide +kernel) (by decide +kernel) (by decide) ?_
          exact lc_clearText hO hX hN hb (by omega) (by omega) hI hc hL (by omega) (by omega) nxt
        · refine x_tableIn (off := 185) (tgt := 225) dL_law_40 (by decide +kernel) (by decide +kernel) (by decide +kernel) (by decide) ?_
          exact lc_errorPosition hO hX hN hb (by omega) (by omega) hI hc hL (by omega) (by omega) nxt
        · refine x_tableIn (off := 198) (tgt := 238) dL_law_40 (by decide +kernel) (by decide +kernel) (by decide +kernel) (by decide) ?_
          exact lc_load hO hX hN hb (by omega) (by omega) hI hc hL (by omega) (by omega) nxt
        · refine x_tableIn (off := 242) (tgt := 282) dL_law_40 (by decide +kernel) (by decide +kernel) (by decide +kernel) (by decide) ?_
          exact lc_about hO hX hN hb (by omega) (by omega) hI hc hL (by omega) (by omega) nxt
        · refine x_tableIn (off := 298) (tgt := 338) dL_law_40 (by decide +kernel) (by decide +kernel) (by decide +kernel) (by decide) ?_
          exact lc_bus hO hX hN hb (by omega) (by omega) hI hc hL (by omega) (by omega) nxt
        · refine x_tableIn (off := 366) (tgt := 406) dL_law_40 (by decide +kernel) (by decide +kernel) (by decide +kernel) (by decide) ?_
          exact lc_charger hO hX hN hb (by omega) (by omega) hI hc hL (by omega) (by omega) nxt
        · refine x_tableIn (off := 434) (tgt := 474) dL_law_40 (by decide +kernel) (by decide +kernel) (by decide +kernel) (by decide) ?_
          exact lc_sign hO hX hN hb (by omega) (by omega) hI hc hL (by omega) (by omega) nxt
        · refine x_tableIn (off := 502) (tgt := 542) dL_law_40 (by decide +kernel) (by decide +kernel) (by decide +kernel) (by decide) ?_
          exact lc_setting hO hX hN hb (by omega) (by omega) hI hc hL (by omega) (by omega) nxt
        · refine x_tableIn (off := 558) (tgt := 598) dL_law_40 (by decide +kernel) (by decide +kernel) (by decide +kernel) (by decide) ?_
          exact lc_addBus hO hX hN hb (by omega) (by omega) hI hc hL (by omega) (by omega) nxt
        · refine x_tableIn (off := 662) (tgt := 702) dL_law_40 (by decide +kernel) (by decide +kernel) (by decide +kernel) (by decide) ?_
          exact lc_addCharger hO hX hN hb (by omega) (by omega) hI hc hL (by omega) (by omega) nxt
        · refine x_tableIn (off := 718) (tgt := 758) dL_law_40 (by decide +kernel) (by decide +kernel) (by decide +kernel) (by decide) ?_
          exact lc_route hO hX hN hb (by omega) (by omega) hI hc hL (by omega) (by omega) nxt
        · refine x_tableIn (off := 810) (tgt := 850) dL_law_40 (by decide +kernel) (by decide +kernel) (by decide +kernel) (by decide) ?_
          exact lc_battery hO hX hN hb (by omega) (by omega) hI hc hL (by omega) (by omega) nxt
        · refine x_tableIn (off := 878) (tgt := 918) dL_law_40 (by decide +kernel) (by decide +kernel) (by decide +kernel) (by decide) ?_
          exact lc_run hO hX hN hb (by omega) (by omega) hI hc hL (by omega) (by omega) nxt
        · refine x_tableIn (off := 934) (tgt := 974) dL_law_40 (by decide +kernel) (by decide +kernel) (by decide +kernel) (by decide) ?_
          exact lc_set hO hX hN hb (by omega) (by omega) hI hc hL (by omega) (by omega) nxt
        · refine x_tableIn (off := 1002) (tgt := 1042) dL_law_40 (by decide +kernel) (by decide +kernel) (by decide +kernel) (by decide) ?_
          exact lc_undo hO hX hN hb (by omega) (by omega) hI hc hL (by omega) (by omega) nxt
        · refine x_tableIn (off := 1046) (tgt := 1086) dL_law_40 (by decide +kernel) (by decide +kernel) (by decide +kernel) (by decide) ?_
          exact lc_coming hO hX hN hb (by omega) (by omega) hI hc hL (by omega) (by omega) nxt
        · refine x_tableIn (off := 1114) (tgt := 1154) dL_law_40 (by decide +kernel) (by decide +kernel) (by decide +kernel) (by decide) ?_
          exact lc_firstMissed hO hX hN hb (by omega) (by omega) hI hc hL (by omega) (by omega) nxt
        · refine x_tableIn (off := 1170) (tgt := 1210) dL_law_40 (by decide +kernel) (by decide +kernel) (by decide +kernel) (by decide) ?_
          exact lc_leastLimit hO hX hN hb (by omega) (by omega) hI hc hL (by omega) (by omega) nxt
        · refine x_tableIn (off := 1226) (tgt := 1266) dL_law_40 (by decide +kernel) (by decide +kernel) (by decide +kernel) (by decide) ?_
          exact lc_bestNight hO hX hN hb (by omega) (by omega) hI hc hL (by omega) (by omega) nxt
        · refine x_tableIn (off := 1282) (tgt := 1322) dL_law_40 (by decide +kernel) (by decide +kernel) (by decide +kernel) (by decide) ?_
          exact lc_ifPlugged hO hX hN hb (by omega) (by omega) hI hc hL (by omega) (by omega) nxt
        · refine x_tableIn (off := 1350) (tgt := 1390) dL_law_40 (by decide +kernel) (by decide +kernel) (by decide +kernel) (by decide) ?_
          exact lc_runScript hO hX hN hb (by omega) (by omega) hI hc hL (by omega) (by omega) nxt
        · refine x_tableIn (off := 1450) (tgt := 1490) dL_law_40 (by decide +kernel) (by decide +kernel) (by decide +kernel) (by decide) ?_
          exact lc_simulate hO hX hN hb (by omega) (by omega) hI hc hL (by omega) (by omega) nxt
        · refine x_tableIn (off := 1550) (tgt := 1590) dL_law_40 (by decide +kernel) (by decide +kernel) (by decide +kernel) (by decide) ?_
          exact lc_save hO hX hN hb (by omega) (by omega) hI hc hL (by omega) (by omega) nxt
        · refine x_tableIn (off := 1606) (tgt := 1646) dL_law_40 (by decide +kernel) (by decide +kernel) (by decide +kernel) (by decide) ?_
          exact lc_restore hO hX hN hb (by omega) (by omega) hI hc hL (by omega) (by omega) nxt
        · refine x_tableOut (tgt := 1702) dL_law_40 (by decide +kernel) (by decide) ?_
          exact nxt C s kk nn (by omega) (by omega) (LwI_mono hI (by omega))
        · refine x_tableOut (tgt := 1702) dL_law_40 (by decide +kernel) (by decide) ?_
          exact nxt C s kk nn (by omega) (by omega) (LwI_mono hI (by omega))
        · refine x_tableOut (tgt := 1702) dL_law_40 (by decide +kernel) (by decide) ?_
          exact nxt C s kk nn (by omega) (by omega) (LwI_mono hI (by omega))
        · refine x_tableOut (tgt := 1702) dL_law_40 (by decide +kernel) (by decide) ?_
          exact nxt C s kk nn (by omega) (by omega) (LwI_mono hI (by omega))
        · refine x_tableOut (tgt := 1702) dL_law_40 (by decide +kernel) (by decide) ?_
          exact nxt C s kk nn (by omega) (by omega) (LwI_mono hI (by omega))
        · refine x_tableOut (tgt := 1702) dL_law_40 (by decide +kernel) (by decide) ?_
          exact nxt C s kk nn (by omega) (by omega) (LwI_mono hI (by omega))
        · refine x_tableOut (tgt := 1702) dL_law_40 (by decide +kernel) (by decide) ?_
          exact nxt C s kk nn (by omega) (by omega) (LwI_mono hI (by omega))
    · skip
      refine x_iload dL_law_23 rfl ?_
      refine x_aload_n dL_law_25 rfl ?_
      refine x_tlen hb dL_law_26 ?_
      refine x_bipush (v := nI 6) dL_law_27 (by decide) ?_
      refine x_isub dL_law_29 ?_
      refine x_icmp_gt (tgt := 1708) dL_law_30 (by decide) (fun c30 => ?_) (fun c30 => ?_)
      · refine x_iconst (v := nI 1) dL_law_1708 (by decide) ?_
        refine x_iret dL_law_1709 rfl (by decide) ?_
        exact hq C
      · exact absurd (exit_lt hc h6k hL) c30

theorem l_start {nm : String} {G : GT} {Q : QT} {sa va : Nat → Nat} {b N : Nat} {xs : Nat → Int32} {C : AH} (hO : GO G) (hX : GX G sa va) (hN : GN G) (hb : eT G .int b N (fun j => .int (xs j))) (hL : N ≤ 3072) (hq : ∀ C' : AH, Q (some (.int 1)) C') : Ex G (M_law nm) Q NX 718176 6941576 0 (lv_args 0 [.ref b]) [] C := by
  refine x_new 6 hO dL_law_0 ⟨Nat.le_of_ble_eq_true rfl, Nat.le_of_ble_eq_true rfl⟩ rfl q_L_8 in_X4 ini_X4 (by decide) (by decide) (by decide) ?_
  refine x_dup dL_law_3 rfl ?_
  refine x_callI (As := []) hO dL_law_4 o_X4_init rfl rfl i_X4_init l_L_91 ⟨Nat.le_of_ble_eq_true rfl, Nat.le_of_ble_eq_true rfl⟩ ⟨Nat.le_of_ble_eq_true rfl, Nat.le_of_ble_eq_true rfl⟩ rfl rfl (Nat.le_of_ble_eq_true rfl) (s_X4_init (x := gz C) hO hX rfl (if_pos rfl) (fun C1 e1 hK1 j1 j2 j3 j4 j5 j6 j7 j8 j9 hA => ?_))
  dsimp only [Option.toList, List.cons_append, List.nil_append]
  have hR0 := RX_new e1 hK1 j1 j2 j3 j4 j5 j6 j7 j8 j9
  clear j1 j2 j3 j4 j5 j6 j7 j8 j9
  obtain ⟨x, hx⟩ : ∃ x, gz C = x := ⟨_, rfl⟩
  rw [hx] at e1 hR0 ⊢
  refine x_astore_n dL_law_7 (Nat.le_of_ble_eq_true rfl) ?_
  refine x_new 7 hO dL_law_8 ⟨Nat.le_of_ble_eq_true rfl, Nat.le_of_ble_eq_true rfl⟩ rfl q_L_92 in_X5 ini_X5 (by decide) (by decide) (by decide) ?_
  rw [e1]
  refine x_dup dL_law_11 rfl ?_
  refine x_callI (As := []) hO dL_law_12 o_X5_init rfl rfl i_X5_init l_L_94 ⟨Nat.le_of_ble_eq_true rfl, Nat.le_of_ble_eq_true rfl⟩ ⟨Nat.le_of_ble_eq_true rfl, Nat.le_of_ble_eq_true rfl⟩ rfl rfl (Nat.le_of_ble_eq_true rfl) (r_init (m := x + 255) hO (by rw [gz_wO, e1]) (by rw [gK_wO, e1]; exact if_pos rfl) (fun j => by rw [gI_wO, e1]; exact if_pos rfl) (fun C2 hM z2 A2 => ?_))
  dsimp only [Option.toList, List.cons_append, List.nil_append]
  refine x_astore_n dL_law_15 (Nat.le_of_ble_eq_true rfl) ?_
  refine x_iconst (v := nI 1) dL_law_16 (by decide) ?_
  refine x_newa 24 _ hO dL_law_17 ⟨Nat.le_of_ble_eq_true rfl, Nat.le_of_ble_eq_true rfl⟩ rfl ac_long rfl (by decide) (by decide) (by decide) ?_
  rw [z2]
  rw [show x + 255 + 14 = x + 269 by omega]
  refine x_astore_n dL_law_19 (Nat.le_of_ble_eq_true rfl) ?_
  refine x_iconst (v := nI 0) dL_law_20 (by decide) ?_
  refine x_istore dL_law_21 (Nat.le_of_ble_eq_true rfl) ?_
  have hM3 : RM 0 (wO C2 24 1) (x + 255) st0 := RM_L (x := x) hM ⟨Nat.le_succ _, fun a q1 _ => by obtain ⟨a1, a2, a3, a4, -⟩ := Ag_wO (C := C2) (κ := 24) (n := 1) rfl a q1; exact ⟨a1, a2, a3, a4⟩⟩ (Nat.le_refl _) (by omega)
  have A1 : Ag C1 C2 (x + 255) := Ag_trans (Ag_wO e1) A2 (Nat.le_refl _)
  have hR2 : RX 0 C2 x st0 := RX_A hR0 (fun q q1 q2 => A1 q (by omega)) (by omega)
  have hR3 : RX 0 (wO C2 24 1) x st0 := RX_A hR2 (fun q q1 q2 => Ag_wO rfl q (by omega)) (Nat.le_succ _)
  refine x_ls [(0, .ref b), (1, .ref x), (2, .ref (x + 255)), (3, .ref (x + 269)), (4, .int (nI (6 * 0)))] ⟨rfl, rfl, rfl, rfl, rfl, trivial⟩ ?_
  refine l_loop hO hX hN hb hL hq 512 0 _ st0 _ _ rfl (Nat.zero_le _) ⟨RX_mono hR3 (by omega), RM_mono hM3 (by omega), ?_, ?_, ?_⟩ ?_ ?_
  · rw [gK_wO, z2]
    exact if_pos rfl
  · rw [gN_wO, z2]
    exact if_pos rfl
  · rw [gz_wO, z2]
    omega
  · exact Nat.le_of_ble_eq_true rfl
  · exact Nat.le_of_ble_eq_true rfl

