/-! scripts, simulations: what they come to *)-/
theorem lgc {x y : Int64} : (lg_cmp x y < 0 ↔ x < y) ∧ (0 < lg_cmp x y ↔ y < x) ∧ (lg_cmp x y ≤ 0 ↔ x ≤ y) ∧ (0 ≤ lg_cmp x y ↔ y ≤ x) := ⟨lg_cmp_lt x y, lg_cmp_gt x y, lg_cmp_le x y, lg_cmp_ge x y⟩
theorem lgcE {x y : Int64} : lg_cmp x y = 0 ↔ x = y := by
  unfold lg_cmp
  have t2 := Int64.lt_iff_toInt_lt (x := y) (y := x)
  by_cases h : x > y
  · rw [if_pos h]
    refine ⟨fun q => absurd q (by decide), fun q => ?_⟩
    subst q
    have := t2.mp h
    omega
  · rw [if_neg h]
    by_cases e : x = y
    · rw [if_pos e]
      exact ⟨fun _ => e, fun _ => rfl⟩
    · rw [if_neg e]
      exact ⟨fun q => absurd q (by decide), fun q => absurd q e⟩
theorem lN_clamp {z : Nat} (h : z < 2 ^ 63) : (lN z).toNatClampNeg = z := by
  show (lN z).toInt.toNat = z
  rw [pk_lT h]
  rfl
def scS (z k : Nat) : Nat → Nat → Rw → Int32
  | 0, _, _ => -1
  | f + 1, i, τ => if (does (z / 100000 ^ (k - 1 - i) % 100000) τ).1 = true then scS z k f (i + 1) (does (z / 100000 ^ (k - 1 - i) % 100000) τ).2 else nI i
def aScript (s : St) (w : Int32) (v : Int64) : An := if nI 1 ≤ w ∧ w ≤ nI 3 then (if ¬ v < 0 ∧ v.toNatClampNeg / 100000 ^ w.toNatClampNeg = 0 then (0, scS v.toNatClampNeg w.toNatClampNeg w.toNatClampNeg 0 s.2.2.1, s) else (1, 0, s)) else (1, 0, s)
def nxX (x : Int64) : Int64 := x * 6364136223846793005 + 1442695040888963407
def rS (x : Int64) : Nat := (x.toUInt64 >>> 33).toNat
theorem rS_lt {x : Int64} : rS x < 2147483648 := by
  unfold rS
  rw [UInt64.toNat_shiftRight]
  have h : x.toUInt64.toNat < 18446744073709551616 := x.toUInt64.toNat_lt
  show x.toUInt64.toNat >>> (33 % 64) < _
  rw [Nat.shiftRight_eq_div_pow, show 2 ^ (33 % 64) = 8589934592 from rfl]
  omega
theorem rS_is {x : Int64} : (x.toUInt64 >>> ((nI 33).toInt64.toUInt64 &&& Int64.toUInt64 63)).toInt64.toInt32 = nI (rS x) := by
  have e : ((nI 33).toInt64.toUInt64 &&& Int64.toUInt64 63) = 33 := by decide
  rw [e]
  unfold rS
  rw [← lN_i]
  refine congrArg Int64.toInt32 ?_
  show (x.toUInt64 >>> 33).toInt64 = Int64.ofNat (x.toUInt64 >>> 33).toNat
  refine Int64.toBitVec_inj.mp ?_
  show (x.toUInt64 >>> 33).toBitVec = BitVec.ofNat 64 (x.toUInt64 >>> 33).toNat
  refine BitVec.eq_of_toNat_eq ?_
  rw [BitVec.toNat_ofNat]
  exact (Nat.mod_eq_of_lt (x.toUInt64 >>> 33).toNat_lt).symm
def stirS (r : Nat) (τ : Rw) : Rw :=
  if r % 8 = 0 then (if r / 8 % 8 < τ 1 ∧ τ (bi (r / 8 % 8) 6) = 0 ∧ okRN (1 + r / 64 % 99) (r / 8192 % 24) (r / 262144 % 24) then rtB τ (r / 8 % 8) (1 + r / 64 % 99) (r / 8192 % 24) (r / 262144 % 24) else τ)
  else if r % 8 = 1 then (if r / 8 % 8 < τ 1 ∧ τ (bi (r / 8 % 8) 6) = 0 then btB τ (r / 8 % 8) (10 + r / 64 % 200) else τ)
  else if r % 8 = 2 then stS τ 0 (r / 64 % 251)
  else runN (1 + r / 8 % 9) τ
def xI (v : Int64) (ρ : Rw) : Nat → Int64 × Rw
  | 0 => (v, ρ)
  | i + 1 => (nxX (xI v ρ i).1, stirS (rS (nxX (xI v ρ i).1)) (xI v ρ i).2)
theorem Ok_stir {T r : Nat} {τ : Rw} (h : Ok T τ) : Ok (T + 9) (stirS r τ) := by
  have hm := Ok_mono h (show T ≤ T + 9 by omega)
  have w1 : τ 1 ≤ 8 := h.1.1
  unfold stirS
  by_cases c0 : r % 8 = 0
  · rw [if_pos c0]
    by_cases c : r / 8 % 8 < τ 1 ∧ τ (bi (r / 8 % 8) 6) = 0 ∧ okRN (1 + r / 64 % 99) (r / 8192 % 24) (r / 262144 % 24)
    · rw [if_pos c]; exact Ok_rtB hm (by omega) c.2.2
    · rw [if_neg c]; exact hm
  · rw [if_neg c0]
    by_cases c1 : r % 8 = 1
    · rw [if_pos c1]
      by_cases c : r / 8 % 8 < τ 1 ∧ τ (bi (r / 8 % 8) 6) = 0
      · rw [if_pos c]; exact Ok_btB hm (by omega) (by omega) (by omega)
      · rw [if_neg c]; exact hm
    · rw [if_neg c1]
      by_cases c2 : r % 8 = 2
      · rw [if_pos c2]; exact Ok_stS hm ⟨by decide, Nat.zero_le _, by show r / 64 % 251 ≤ 250; omega⟩
      · rw [if_neg c2]; exact Ok_mono (Ok_run h (n := 1 + r / 8 % 9)) (by omega)
theorem Ok_xI {T : Nat} {v : Int64} {ρ : Rw} (h : Ok T ρ) (i : Nat) : Ok (T + 9 * i) (xI v ρ i).2 := by
  induction i with
  | zero => exact h
  | succ i ih => exact Ok_mono (Ok_stir ih) (by omega)
def simV (ρ τ : Rw) : Int32 := nI 1000 * (nI (τ 5) - nI (ρ 5)) + (nI (τ 6) - nI (ρ 6))
def aSim (s : St) (v : Int64) (w : Int32) : An := if nI 1 ≤ w ∧ w ≤ nI 30 then (0, simV s.2.2.1 (xI v s.2.2.1 w.toNatClampNeg).2, s) else (1, 0, s)

theorem s_groupsFrom {G : GT} {C : AH} {Q : QT} {X : XT} {z c : Nat} (hO : GO G) (hz : z < 2 ^ 63) (hc : c < 100) (hq : Q (some (.long (lN (z / 100000 ^ c)))) C) : Mt G M_X4_groupsFrom [.long (lN z), .int (nI c)] C Q X := by
  refine Mt_of (by decide) (Nat.le_of_ble_eq_true rfl) ?_
  have loop : ∀ (m9 i : Nat), c - i = m9 → i ≤ c → Ex G M_X4_groupsFrom Q X (mC M_X4_groupsFrom) (mS M_X4_groupsFrom) 5 [(0, .long (lN z)), (2, .int (nI c)), (3, .long (lN (z / 100000 ^ i))), (5, .int (nI i))] [] C := by
    intro m9
    induction m9 using Nat.strongRecOn with
    | _ m9 ih =>
      intro i hm9 hi
      refine x_iload dX4_groupsFrom_5 rfl ?_
      refine x_iload_n dX4_groupsFrom_7 rfl ?_
      refine x_icmp_ge (tgt := 23) dX4_groupsFrom_8 (by decide) (fun c8 => ?_) (fun c8 => ?_)
      · simp (disch := omega) only [nI_leI] at c8
        refine x_lload_n dX4_groupsFrom_23 rfl ?_
        refine x_lret dX4_groupsFrom_24 rfl ?_
        have : i = c := by omega
        subst this
        exact hq
      · simp (disch := omega) only [nI_leI] at c8
        refine x_lload_n dX4_groupsFrom_11 rfl ?_
        refine x_ldc2 hO.1 dX4_groupsFrom_12 k_X4_287 ?_
        refine x_ldiv dX4_groupsFrom_15 (by decide) ?_
        rw [show (100000 : Int64) = lN 100000 from rfl, pk_lDiv (Nat.lt_of_le_of_lt (Nat.div_le_self _ _) hz) (by decide) (by decide)]
        refine x_lstore_n dX4_groupsFrom_16 (by decide) ?_
        refine x_iinc (v := nI 1) dX4_groupsFrom_17 rfl (by decide) (by decide) ?_
        refine x_goto (tgt := 5) dX4_groupsFrom_20 (by decide) ?_
        rw [Nat.div_div_eq_div_mul, ← Nat.pow_succ]
        refine x_ls [(0, .long (lN z)), (2, .int (nI c)), (3, .long (lN (z / 100000 ^ (i + 1)))), (5, .int (nI (i + 1)))] ⟨rfl, rfl, rfl, (by rw [← nI_add]; rfl), trivial⟩ ?_
        exact ih (m9 - 1) (by omega) (i + 1) (by omega) (by omega)
  refine x_lload_n dX4_groupsFrom_0 rfl ?_
  refine x_lstore_n dX4_groupsFrom_1 (by decide) ?_
  refine x_iconst (v := nI 0) dX4_groupsFrom_2 (by decide) ?_
  refine x_istore dX4_groupsFrom_3 (by decide) ?_
  refine x_ls [(0, .long (lN z)), (2, .int (nI c)), (3, .long (lN (z / 100000 ^ 0))), (5, .int (nI 0))] ⟨rfl, rfl, (by rw [Nat.pow_zero, Nat.div_one]; rfl), rfl, trivial⟩ ?_
  exact loop _ 0 rfl (Nat.zero_le _)

theorem t_runScript {G : GT} {C : AH} {Q : QT} {X : XT} {sa va : Nat → Nat} {x T n : Nat} {S : Nat → Nat} {ρ : Rw} {L : List Rw} {K : Nat → Option Rw} {w : Int32} {v : Int64} (hO : GO G) (hX : GX G sa va) (hT : T ≤ 40000) (hR : RX T C x (S, n, ρ, L, K)) (hq : (aScript (S, n, ρ, L, K) w v).1 = 0 → ∀ C' : AH, RX (T) C' x (aScript (S, n, ρ, L, K) w v).2.2 → Fr C C' x 255 → Q (some (.int (aScript (S, n, ρ, L, K) w v).2.1)) C') (hx1 : (aScript (S, n, ρ, L, K) w v).1 = 1 → ∀ C' : AH, RX (T) C' x (aScript (S, n, ρ, L, K) w v).2.2 → Fr C C' x 255 → X "java/lang/IllegalArgumentException" C') : Mt G M_X4_runScript [.ref x, .int w, .long v] C Q X := by
  refine Mt_of (by decide) (Nat.le_of_ble_eq_true rfl) ?_
  obtain ⟨hk, π, hs, hv⟩ := id hR
  obtain ⟨hK, ⟨g0, g1, g2, g3, g4, g5, g6⟩, hTx, hNow, hHi, ⟨ks, ns, es⟩, ⟨kf, nf⟩, hTr, hPr, hSl, hgz⟩ := id hs
  have kTx := hTx.1
  have kNow := hNow.1
  have kHi := hHi.1
  have kTr := hTr.1
  have kPr := hPr.1
  obtain ⟨vT, vN, vH, vS⟩ : TxV (gI C) (x + 1) S n ∧ VaD (gI C) (x + 4) ρ ∧ HiV (gI C) (x + 17) π L ∧ SlV (gI C) x K := hv
  obtain ⟨ok1, ok2, ok3, ok4, ok5, ok6⟩ : Ok T ρ ∧ (∀ σ, σ ∈ L → Ok T σ) ∧ (∀ i σ, K i = some σ → Ok T σ) ∧ n ≤ 120 ∧ (∀ i, i < n → S i < 256) ∧ L.length ≤ 14 := hk
  obtain ⟨hW, hB⟩ := id ok1
  obtain ⟨b0, b3, b4, b5, b6, b7⟩ := id hB
  obtain ⟨w1, w2, w7, w8, w9, w10, w11, w11', w12, wB, wP⟩ := id hW
  obtain ⟨s0, s1, s2, s3, v4, v5, v6, v7, v8, v9, v10⟩ := SkD_f hNow vN
  refine x_iload_n dX4_runScript_0 rfl ?_
  refine x_iconst (v := nI 1) dX4_runScript_1 (by decide) ?_
  refine x_iconst (v := nI 3) dX4_runScript_2 (by decide) ?_
  refine x_callS (As := [_, _, _]) hO dX4_runScript_3 o_X4_requireWithin s_X4_requireWithin l_X4_44 ⟨by decide, by decide⟩ ⟨by decide, by decide⟩ rfl rfl (Nat.le_of_ble_eq_true rfl) (s_requireWithin hO hX (fun h5 => ?_) (fun h5 => ?_))
  · dsimp only [Option.toList, List.cons_append, List.nil_append]
    obtain ⟨k, hk0, hk9, rfl⟩ := (rng (by decide) (by decide)).mp h5
    refine x_lload_n dX4_runScript_6 rfl ?_
    refine x_lconst (v := 0) dX4_runScript_7 (by decide) ?_
    refine x_lcmp dX4_runScript_8 ?_
    refine x_if_lt (tgt := 22) dX4_runScript_9 (by decide) (fun c9 => ?_) (fun c9 => ?_)
    · rw [lgc.1] at c9
      refine x_throwSW (names := nmsX) hO hX.1 dX4_runScript_22 dX4_runScript_25 dX4_runScript_26 dX4_runScript_29 dX4_runScript_32 fit_181 nms_fit q_X4_177 ini_IllegalArgumentException (hX.2.1 21 _ _ _ rfl) g1_181 dcl g2_181 (dcl_ok hO) (gd_181 _) (Nat.le_of_ble_eq_true rfl) ⟨by decide, by decide⟩ ⟨by decide, by decide⟩ ?_
      have eA : aScript (S, n, ρ, L, K) (nI k) v = (1, 0, (S, n, ρ, L, K)) := by
        unfold aScript
        rw [if_pos h5]
        exact if_neg (fun q => q.1 c9)
      rw [eA] at hx1
      exact fun z hz => hx1 rfl _ (RX_wZ hR hz) (Fr_wZ hz)
    · rw [lgc.1] at c9
      obtain ⟨z, hz, rfl⟩ := pk_lOf c9
      refine x_lload_n dX4_runScript_12 rfl ?_
      refine x_iload_n dX4_runScript_13 rfl ?_
      refine x_callS (As := [_, _]) hO dX4_runScript_14 o_X4_groupsFrom s_X4_groupsFrom l_X4_281 ⟨by decide, by decide⟩ ⟨by decide, by decide⟩ rfl rfl (Nat.le_of_ble_eq_true rfl) (s_groupsFrom hO hz (by omega) ?_)
      dsimp only [Option.toList, List.cons_append, List.nil_append]
      refine x_lconst (v := 0) dX4_runScript_17 (by decide) ?_
      refine x_lcmp dX4_runScript_18 ?_
      refine x_if_eq (tgt := 33) dX4_runScript_19 (by decide) (fun c19 => ?_) (fun c19 => ?_)
      · rw [lgcE] at c19
        have c19 : z / 100000 ^ k = 0 := (pk_lEQ (Nat.lt_of_le_of_lt (Nat.div_le_self _ _) hz) (by decide)).mp c19
        have eA : aScript (S, n, ρ, L, K) (nI k) (lN z) = (0, scS z k k 0 ρ, (S, n, ρ, L, K)) := by
          unfold aScript
          rw [if_pos h5, nI_clamp (show k < 2 ^ 31 by omega), lN_clamp hz]
          exact if_pos ⟨c9, c19⟩
        rw [eA] at hq
        refine x_aload_n dX4_runScript_33 rfl ?_
        refine x_get 6 hO dX4_runScript_34 f_X4_38 (by first | (simp only [gK_wI]; assumption) | assumption) ⟨by decide, by decide⟩ (v := .ref (x + 203)) (congrArg va_rf g5) ?_
        refine x_aload_n dX4_runScript_37 rfl ?_
        refine x_get 6 hO dX4_runScript_38 f_X4_19 (by first | (simp only [gK_wI]; assumption) | assumption) ⟨by decide, by decide⟩ (v := .ref (x + 4)) (congrArg va_rf g1) ?_
        refine x_callV (As := [_]) 3 hO dX4_runScript_41 o_X1_becomeLike v_X1_becomeLike l_X4_261 ⟨by decide, by decide⟩ (by first | (simp only [gK_wI]; assumption) | assumption) ⟨by decide, by decide⟩ rfl ⟨by decide, by decide⟩ rfl rfl (Nat.le_of_ble_eq_true rfl) (s_becomeLike hO hTr hNow vN hW (by omega) (fun f p1 p2 => ?_))
        dsimp only [Option.toList, List.cons_append, List.nil_append]
        refine x_iconst (v := nI 0) dX4_runScript_44 (by decide) ?_
        refine x_istore dX4_runScript_45 (by decide) ?_
        have loop : ∀ (kk nn m9 i : Nat) (f : Nat → Nat → Int32) (τ : Rw), k - i = m9 → i ≤ k → VaD f (x + 203) τ → Ok (T + 48 * i) τ → (∀ a : Nat, (a < x + 203 ∨ x + 229 ≤ a) → f a = gI C a) → scS z k k 0 ρ = scS z k (k - i) i τ → Ex G M_X4_runScript Q X kk nn 47 [(0, .ref x), (1, .int (nI k)), (2, .long (lN z)), (4, .int (nI i))] [] (wI C f) := by
          intro kk nn m9
          induction m9 using Nat.strongRecOn with
          | _ m9 ih =>
          intro i f τ hm9 hi hVt hkt hf hE
          refine x_iload dX4_runScript_47 rfl ?_
          refine x_iload_n dX4_runScript_49 rfl ?_
          refine x_icmp_ge (tgt := 88) dX4_runScript_50 (by decide) (fun c50 => ?_) (fun c50 => ?_)
          · simp (disch := omega) only [nI_leI] at c50
            refine x_iconst (v := (-1)) dX4_runScript_88 (by decide) ?_
            refine x_iret dX4_runScript_89 rfl rfl ?_
            have : i = k := by omega
            subst this
            rw [hE, Nat.sub_self] at hq
            exact hq rfl _ (RX_tr hR fun a ha => hf a ha) (Fr_wI fun a ha => hf a (by omega))
          · simp (disch := omega) only [nI_leI] at c50
            refine x_lload_n dX4_runScript_53 rfl ?_
            refine x_iload_n dX4_runScript_54 rfl ?_
            refine x_iconst (v := nI 1) dX4_runScript_55 (by decide) ?_
            refine x_isub dX4_runScript_56 ?_
            rw [pk_sub (by omega)]
            refine x_iload dX4_runScript_57 rfl ?_
            refine x_isub dX4_runScript_59 ?_
            rw [pk_sub (by omega)]
            refine x_callS (As := [_, _]) hO dX4_runScript_60 o_X4_groupsFrom s_X4_groupsFrom l_X4_281 ⟨by decide, by decide⟩ ⟨Nat.zero_le _, Nat.zero_le _⟩ rfl rfl (Nat.le_of_ble_eq_true rfl) (s_groupsFrom hO hz (by omega) ?_)
            dsimp only [Option.toList, List.cons_append, List.nil_append]
            refine x_ldc2 hO.1 dX4_runScript_63 k_X4_287 ?_
            refine x_lrem dX4_runScript_66 (by decide) ?_
            rw [show (100000 : Int64) = lN 100000 from rfl, pk_lRem (Nat.lt_of_le_of_lt (Nat.div_le_self _ _) hz) (by decide) (by decide)]
            refine x_l2i dX4_runScript_67 ?_
            rw [lN_i]
            refine x_istore dX4_runScript_68 (by decide) ?_
            refine x_aload_n dX4_runScript_70 rfl ?_
            refine x_iload dX4_runScript_71 rfl ?_
            refine x_callV (As := [_]) 6 hO dX4_runScript_73 o_X4_succeeds v_X4_succeeds l_X4_289 ⟨by decide, by decide⟩ (by first | (simp only [gK_wI]; assumption) | assumption) ⟨by decide, by decide⟩ rfl ⟨Nat.zero_le _, Nat.zero_le _⟩ rfl rfl (Nat.le_of_ble_eq_true rfl) (s_succeeds (C0 := C) (f0 := f) (U := T + 48 * i) (g := z / 100000 ^ (k - 1 - i) % 100000) rfl hf hO hX hT hR hVt hkt (by omega) (Nat.mod_lt _ (by decide)) (fun r73 h73 hr73 v73 w73 => ?_))
            dsimp only [Option.toList, List.cons_append, List.nil_append]
            refine x_if_ne (tgt := 82) dX4_runScript_76 (by decide) (fun c76 => ?_) (fun c76 => ?_)
            · have p73 := (ite01 hr73).2 c76
              refine x_iinc (v := nI 1) dX4_runScript_82 rfl (by decide) (by decide) ?_
              refine x_goto (tgt := 47) dX4_runScript_85 (by decide) ?_
              try simp only [wI_wI, gI_wI]
              refine x_ls [(0, .ref x), (1, .int (nI k)), (2, .long (lN z)), (4, .int (nI (i + 1)))] ⟨rfl, rfl, rfl, (by rw [← nI_add]; rfl), trivial⟩ ?_
              refine ih (m9 - 1) (by omega) (i + 1) h73 _ (by omega) (by omega) v73 (Ok_mono (Ok_does hkt) (by omega)) w73 ?_
              rw [hE, show k - i = k - (i + 1) + 1 by omega]
              exact if_pos p73
            · have p73 := (ite01 hr73).1 c76
              refine x_iload dX4_runScript_79 rfl ?_
              refine x_iret dX4_runScript_81 rfl rfl ?_
              have hv : scS z k k 0 ρ = nI i := by
                rw [hE, show k - i = k - (i + 1) + 1 by omega]
                exact if_neg p73
              rw [hv] at hq
              exact hq rfl _ (RX_tr hR fun a ha => w73 a ha) (Fr_wI fun a ha => w73 a (by omega))
        refine x_ls [(0, .ref x), (1, .int (nI k)), (2, .long (lN z)), (4, .int (nI 0))] ⟨rfl, rfl, rfl, rfl, trivial⟩ ?_
        exact loop _ _ _ 0 f ρ rfl (Nat.zero_le _) p1 ok1 (fun a ha => p2 a (by omega)) rfl
      · rw [lgcE] at c19
        refine x_throwSW (names := nmsX) hO hX.1 dX4_runScript_22 dX4_runScript_25 dX4_runScript_26 dX4_runScript_29 dX4_runScript_32 fit_181 nms_fit q_X4_177 ini_IllegalArgumentException (hX.2.1 21 _ _ _ rfl) g1_181 dcl g2_181 (dcl_ok hO) (gd_181 _) (Nat.le_of_ble_eq_true rfl) ⟨by decide, by decide⟩ ⟨by decide, by decide⟩ ?_
        have eA : aScript (S, n, ρ, L, K) (nI k) (lN z) = (1, 0, (S, n, ρ, L, K)) := by
          unfold aScript
          rw [if_pos h5]
          exact if_neg (fun q => c19 (congrArg lN (by rw [nI_clamp (by omega), lN_clamp hz] at q; exact q.2)))
        rw [eA] at hx1
        exact fun z hz => hx1 rfl _ (RX_wZ hR hz) (Fr_wZ hz)
  · have eA : aScript (S, n, ρ, L, K) w v = (1, 0, (S, n, ρ, L, K)) := if_neg h5
    rw [eA] at hx1
    exact fun z hz => hx1 rfl _ (RX_wZ hR hz) (Fr_wZ hz)

theorem s_simTurn {G : GT} {C : AH} {Q : QT} {X : XT} {sa va : Nat → Nat} {x T U n : Nat} {S : Nat → Nat} {ρ τ : Rw} {L : List Rw} {K : Nat → Option Rw} {C0 : AH} {f0 : Nat → Nat → Int32} {r : Nat} (hC : C = wI C0 f0) (hf0 : ∀ a : Nat, (a < x + 203 ∨ x + 229 ≤ a) → f0 a = gI C0 a) (hO : GO G) (hX : GX G sa va) (hT : T ≤ 40000) (hR : RX T C0 x (S, n, ρ, L, K)) (hVt : VaD f0 (x + 203) τ) (hkt : Ok U τ) (hU : U ≤ 45000) (hr : r < 2147483648) (hq : ∀ h : Nat → Nat → Int32, VaD h (x + 203) (stirS r τ) → (∀ a : Nat, (a < x + 203 ∨ x + 229 ≤ a) → h a = gI C0 a) → Q none (wI C0 h)) : Mt G M_X4_simulateTurn [.ref x, .int (nI r)] C Q X := by
  subst hC
  refine Mt_of (by decide) (Nat.le_of_ble_eq_true rfl) ?_
  obtain ⟨hk, π, hs, hv⟩ := id hR
  obtain ⟨hK, ⟨g0, g1, g2, g3, g4, g5, g6⟩, hTx, hNow, hHi, ⟨ks, ns, es⟩, ⟨kf, nf⟩, hTr, hPr, hSl, hgz⟩ := id hs
  have kTx := hTx.1
  have kNow := hNow.1
  have kHi := hHi.1
  have kTr := hTr.1
  have kPr := hPr.1
  obtain ⟨vT, vN, vH, vS⟩ : TxV (gI C0) (x + 1) S n ∧ VaD (gI C0) (x + 4) ρ ∧ HiV (gI C0) (x + 17) π L ∧ SlV (gI C0) x K := hv
  obtain ⟨ok1, ok2, ok3, ok4, ok5, ok6⟩ : Ok T ρ ∧ (∀ σ, σ ∈ L → Ok T σ) ∧ (∀ i σ, K i = some σ → Ok T σ) ∧ n ≤ 120 ∧ (∀ i, i < n → S i < 256) ∧ L.length ≤ 14 := hk
  obtain ⟨hW, hB⟩ := id ok1
  obtain ⟨b0, b3, b4, b5, b6, b7⟩ := id hB
  obtain ⟨w1, w2, w7, w8, w9, w10, w11, w11', w12, wB, wP⟩ := id hW
  obtain ⟨s0, s1, s2, s3, v4, v5, v6, v7, v8, v9, v10⟩ := SkD_f (C := C0) hNow vN
  obtain ⟨hWt, hBt⟩ := id hkt
  have t1 : τ 1 ≤ 8 := hWt.1
  refine x_iload_n dX4_simulateTurn_0 rfl ?_
  refine x_bipush (v := nI 8) dX4_simulateTurn_1 (by decide) ?_
  refine x_idiv dX4_simulateTurn_3 (by decide) ?_
  rw [pk_div (by omega) (by decide) (by decide)]
  refine x_bipush (v := nI 8) dX4_simulateTurn_4 (by decide) ?_
  refine x_irem dX4_simulateTurn_6 (by decide) ?_
  rw [pk_rem (by omega) (by decide) (by decide)]
  refine x_istore_n dX4_simulateTurn_7 (by decide) ?_
  refine x_iload_n dX4_simulateTurn_8 rfl ?_
  refine x_bipush (v := nI 8) dX4_simulateTurn_9 (by decide) ?_
  refine x_irem dX4_simulateTurn_11 (by decide) ?_
  rw [pk_rem (by omega) (by decide) (by decide)]
  rcases (show r % 8 = 0 ∨ r % 8 = 1 ∨ r % 8 = 2 ∨ 3 ≤ r % 8 by omega) with hw | hw | hw | hw
  · rw [hw]
    refine x_tableIn (off := 28) (tgt := 40) dX4_simulateTurn_12 (by decide +kernel) (by decide +kernel) (by decide +kernel) (by decide) ?_
    refine x_aload_n dX4_simulateTurn_40 rfl ?_
    refine x_get 6 hO dX4_simulateTurn_41 f_X4_38 (by first | (simp only [gK_wI]; assumption) | assumption) ⟨by decide, by decide⟩ (v := .ref (x + 203)) (congrArg va_rf g5) ?_
    refine x_iload_n dX4_simulateTurn_44 rfl ?_
    refine x_iconst (v := nI 1) dX4_simulateTurn_45 (by decide) ?_
    refine x_iload_n dX4_simulateTurn_46 rfl ?_
    refine x_bipush (v := nI 64) dX4_simulateTurn_47 (by decide) ?_
    refine x_idiv dX4_simulateTurn_49 (by decide) ?_
    rw [pk_div (by omega) (by decide) (by decide)]
    refine x_bipush (v := nI 99) dX4_simulateTurn_50 (by decide) ?_
    refine x_irem dX4_simulateTurn_52 (by decide) ?_
    rw [pk_rem (by omega) (by decide) (by decide)]
    refine x_iadd dX4_simulateTurn_53 ?_
    rw [nI_add]
    refine x_iload_n dX4_simulateTurn_54 rfl ?_
    refine x_sipush (v := nI 8192) dX4_simulateTurn_55 (by decide) ?_
    refine x_idiv dX4_simulateTurn_58 (by decide) ?_
    rw [pk_div (by omega) (by decide) (by decide)]
    refine x_bipush (v := nI 24) dX4_simulateTurn_59 (by decide) ?_
    refine x_irem dX4_simulateTurn_61 (by decide) ?_
    rw [pk_rem (by omega) (by decide) (by decide)]
    refine x_iload_n dX4_simulateTurn_62 rfl ?_
    skip
    refine x_ldcw hO.1 dX4_simulateTurn_63 k_X4_365 ?_
    rw [show (262144 : Int32) = nI 262144 from rfl]
    refine x_idiv dX4_simulateTurn_66 (by decide) ?_
    rw [pk_div (by omega) (by decide) (by decide)]
    refine x_bipush (v := nI 24) dX4_simulateTurn_67 (by decide) ?_
    refine x_irem dX4_simulateTurn_69 (by decide) ?_
    rw [pk_rem (by omega) (by decide) (by decide)]
    refine x_callV (As := [_, _, _, _]) 3 hO dX4_simulateTurn_70 o_X1_tryGiveRoute v_X1_tryGiveRoute l_X4_366 ⟨by decide, by decide⟩ (by first | (simp only [gK_wI]; assumption) | assumption) ⟨by decide, by decide⟩ rfl ⟨by decide, by decide⟩ rfl rfl (Nat.le_of_ble_eq_true rfl) (s_tryGiveRoute (C := wI C0 f0) hO hTr hVt hWt (fun j y1 y2 y3 m1 m2 m3 m4 m5 m6 m7 h q1 q2 => ?_) (fun q0 => ?_))
    · dsimp only [Option.toList, List.cons_append, List.nil_append]
      refine x_pop dX4_simulateTurn_73 rfl ?_
      refine x_goto (tgt := 137) dX4_simulateTurn_74 (by decide) ?_
      refine x_ret dX4_simulateTurn_137 rfl ?_
      obtain ⟨o1, o2, o3, o4, o5⟩ := id m4
      have e := (nI_eq (by omega) (by omega)).mp m2
      have e1 := (nI_eq (by omega) (by omega)).mp m5
      have e2 := (nI_eq (by omega) (by omega)).mp m6
      have e3 := (nI_eq (by omega) (by omega)).mp m7
      subst e e1 e2 e3
      have hs : stirS r τ = rtB τ (r / 8 % 8) (1 + r / 64 % 99) (r / 8192 % 24) (r / 262144 % 24) := (if_pos hw).trans (if_pos ⟨m1, m3, m4⟩)
      exact hq h (by rw [hs]; exact q1) (fun b hb => (q2 b (by omega)).trans (hf0 b hb))
    · dsimp only [Option.toList, List.cons_append, List.nil_append]
      refine x_pop dX4_simulateTurn_73 rfl ?_
      refine x_goto (tgt := 137) dX4_simulateTurn_74 (by decide) ?_
      refine x_ret dX4_simulateTurn_137 rfl ?_
      have hs : stirS r τ = τ := (if_pos hw).trans (if_neg fun q => q0 ⟨_, _, _, _, q.1, rfl, q.2.1, q.2.2, rfl, rfl, rfl⟩)
      exact hq f0 (by rw [hs]; exact hVt) hf0
  · rw [hw]
    refine x_tableIn (off := 65) (tgt := 77) dX4_simulateTurn_12 (by decide +kernel) (by decide +kernel) (by decide +kernel) (by decide) ?_
    refine x_aload_n dX4_simulateTurn_77 rfl ?_
    refine x_get 6 hO dX4_simulateTurn_78 f_X4_38 (by first | (simp only [gK_wI]; assumption) | assumption) ⟨by decide, by decide⟩ (v := .ref (x + 203)) (congrArg va_rf g5) ?_
    refine x_iload_n dX4_simulateTurn_81 rfl ?_
    refine x_bipush (v := nI 10) dX4_simulateTurn_82 (by decide) ?_
    refine x_iload_n dX4_simulateTurn_84 rfl ?_
    refine x_bipush (v := nI 64) dX4_simulateTurn_85 (by decide) ?_
    refine x_idiv dX4_simulateTurn_87 (by decide) ?_
    rw [pk_div (by omega) (by decide) (by decide)]
    refine x_sipush (v := nI 200) dX4_simulateTurn_88 (by decide) ?_
    refine x_irem dX4_simulateTurn_91 (by decide) ?_
    rw [pk_rem (by omega) (by decide) (by decide)]
    refine x_iadd dX4_simulateTurn_92 ?_
    rw [nI_add]
    refine x_callV (As := [_, _]) 3 hO dX4_simulateTurn_93 o_X1_tryGiveBattery v_X1_tryGiveBattery l_X4_350 ⟨by decide, by decide⟩ (by first | (simp only [gK_wI]; assumption) | assumption) ⟨by decide, by decide⟩ rfl ⟨by decide, by decide⟩ rfl rfl (Nat.le_of_ble_eq_true rfl) (s_tryGiveBattery (C := wI C0 f0) hO hTr hVt hWt (fun j y m1 m2 m3 m4 m5 m6 h q1 q2 => ?_) (fun q0 => ?_))
    · dsimp only [Option.toList, List.cons_append, List.nil_append]
      refine x_pop dX4_simulateTurn_96 rfl ?_
      refine x_goto (tgt := 137) dX4_simulateTurn_97 (by decide) ?_
      refine x_ret dX4_simulateTurn_137 rfl ?_
      have e := (nI_eq (by omega) (by omega)).mp m2
      have e1 := (nI_eq (by omega) (by omega)).mp m6
      subst e e1
      have hs : stirS r τ = btB τ (r / 8 % 8) (10 + r / 64 % 200) := (if_neg (by omega)).trans ((if_pos hw).trans (if_pos ⟨m1, m3⟩))
      exact hq h (by rw [hs]; exact q1) (fun b hb => (q2 b (by omega)).trans (hf0 b hb))
    · dsimp only [Option.toList, List.cons_append, List.nil_append]
      refine x_pop dX4_simulateTurn_96 rfl ?_
      refine x_goto (tgt := 137) dX4_simulateTurn_97 (by decide) ?_
      refine x_ret dX4_simulateTurn_137 rfl ?_
      have hs : stirS r τ = τ := (if_neg (by omega)).trans ((if_pos hw).trans (if_neg fun q => q0 ⟨_, _, q.1, rfl, q.2, by omega, by omega, rfl⟩))
      exact hq f0 (by rw [hs]; exact hVt) hf0
  · rw [hw]
    refine x_tableIn (off := 88) (tgt := 100) dX4_simulateTurn_12 (by decide +kernel) (by decide +kernel) (by decide +kernel) (by decide) ?_
    refine x_aload_n dX4_simulateTurn_100 rfl ?_
    refine x_get 6 hO dX4_simulateTurn_101 f_X4_38 (by first | (simp only [gK_wI]; assumption) | assumption) ⟨by decide, by decide⟩ (v := .ref (x + 203)) (congrArg va_rf g5) ?_
    refine x_iconst (v := nI 0) dX4_simulateTurn_104 (by decide) ?_
    refine x_iload_n dX4_simulateTurn_105 rfl ?_
    refine x_bipush (v := nI 64) dX4_simulateTurn_106 (by decide) ?_
    refine x_idiv dX4_simulateTurn_108 (by decide) ?_
    rw [pk_div (by omega) (by decide) (by decide)]
    refine x_sipush (v := nI 251) dX4_simulateTurn_109 (by decide) ?_
    refine x_irem dX4_simulateTurn_112 (by decide) ?_
    rw [pk_rem (by omega) (by decide) (by decide)]
    refine x_callV (As := [_, _]) 3 hO dX4_simulateTurn_113 o_X1_tryChange v_X1_tryChange l_X4_353 ⟨by decide, by decide⟩ (by first | (simp only [gK_wI]; assumption) | assumption) ⟨by decide, by decide⟩ rfl ⟨by decide, by decide⟩ rfl rfl (Nat.le_of_ble_eq_true rfl) (s_tryChange (C := wI C0 f0) hO hX hTr hVt hWt (fun j y m1 m2 m3 h q1 q2 => ?_) (fun q0 => ?_))
    · dsimp only [Option.toList, List.cons_append, List.nil_append]
      refine x_pop dX4_simulateTurn_116 rfl ?_
      refine x_goto (tgt := 137) dX4_simulateTurn_117 (by decide) ?_
      refine x_ret dX4_simulateTurn_137 rfl ?_
      have y2 : y ≤ 999 := Nat.le_trans m3.2.2 (by unfold hiS; split <;> (try split) <;> (try split) <;> omega)
      have y3 := m3.1
      have e := (nI_eq (by decide) (by omega)).mp m1
      have e1 := (nI_eq (by omega) (by omega)).mp m2
      subst e e1
      have hs : stirS r τ = stS τ 0 (r / 64 % 251) := (if_neg (by omega)).trans ((if_neg (by omega)).trans (if_pos hw))
      exact hq h (by rw [hs]; exact q1) (fun b hb => (q2 b (by omega)).trans (hf0 b hb))
    · dsimp only [Option.toList, List.cons_append, List.nil_append]
      refine x_pop dX4_simulateTurn_116 rfl ?_
      refine x_goto (tgt := 137) dX4_simulateTurn_117 (by decide) ?_
      refine x_ret dX4_simulateTurn_137 rfl ?_
      exact absurd (okS_N.mpr ⟨0, r / 64 % 251, rfl, rfl, by decide, Nat.zero_le _, by show r / 64 % 251 ≤ 250; omega⟩) q0
  · refine x_tableOut (tgt := 120) dX4_simulateTurn_12 (Or.inr (by rw [nI_toInt (by omega)]; omega)) (by decide) ?_
    refine x_aload_n dX4_simulateTurn_120 rfl ?_
    refine x_get 6 hO dX4_simulateTurn_121 f_X4_38 (by first | (simp only [gK_wI]; assumption) | assumption) ⟨by decide, by decide⟩ (v := .ref (x + 203)) (congrArg va_rf g5) ?_
    refine x_iconst (v := nI 1) dX4_simulateTurn_124 (by decide) ?_
    refine x_iload_n dX4_simulateTurn_125 rfl ?_
    refine x_bipush (v := nI 8) dX4_simulateTurn_126 (by decide) ?_
    refine x_idiv dX4_simulateTurn_128 (by decide) ?_
    rw [pk_div (by omega) (by decide) (by decide)]
    refine x_bipush (v := nI 9) dX4_simulateTurn_129 (by decide) ?_
    refine x_irem dX4_simulateTurn_131 (by decide) ?_
    rw [pk_rem (by omega) (by decide) (by decide)]
    refine x_iadd dX4_simulateTurn_132 ?_
    rw [nI_add]
    refine x_callV (As := [_]) 3 hO dX4_simulateTurn_133 o_X1_tryPassHours v_X1_tryPassHours l_X4_347 ⟨by decide, by decide⟩ (by first | (simp only [gK_wI]; assumption) | assumption) ⟨by decide, by decide⟩ rfl ⟨by decide, by decide⟩ rfl rfl (Nat.le_of_ble_eq_true rfl) (s_tryPassHours (C := wI C0 f0) hO hTr hVt hWt hBt (by omega) (fun y m1 m2 m3 h q1 q2 => ?_) (fun q0 => ?_))
    · dsimp only [Option.toList, List.cons_append, List.nil_append]
      refine x_pop dX4_simulateTurn_136 rfl ?_
      refine x_ret dX4_simulateTurn_137 rfl ?_
      have e := (nI_eq (by omega) (by omega)).mp m3
      subst e
      have hs : stirS r τ = runN (1 + r / 8 % 9) τ := (if_neg (by omega)).trans ((if_neg (by omega)).trans (if_neg (by omega)))
      exact hq h (by rw [hs]; exact q1) (fun b hb => (q2 b (by omega)).trans (hf0 b hb))
    · dsimp only [Option.toList, List.cons_append, List.nil_append]
      refine x_pop dX4_simulateTurn_136 rfl ?_
      refine x_ret dX4_simulateTurn_137 rfl ?_
      exact absurd ⟨_, by omega, by omega, rfl⟩ q0

theorem t_simulate {G : GT} {C : AH} {Q : QT} {X : XT} {sa va : Nat → Nat} {x T n : Nat} {S : Nat → Nat} {ρ : Rw} {L : List Rw} {K : Nat → Option Rw} {v : Int64} {w : Int32} (hO : GO G) (hX : GX G sa va) (hT : T ≤ 40000) (hR : RX T C x (S, n, ρ, L, K)) (hq : (aSim (S, n, ρ, L, K) v w).1 = 0 → ∀ C' : AH, RX (T) C' x (aSim (S, n, ρ, L, K) v w).2.2 → Fr C C' x 255 → Q (some (.int (aSim (S, n, ρ, L, K) v w).2.1)) C') (hx1 : (aSim (S, n, ρ, L, K) v w).1 = 1 → ∀ C' : AH, RX (T) C' x (aSim (S, n, ρ, L, K) v w).2.2 → Fr C C' x 255 → X "java/lang/IllegalArgumentException" C') : Mt G M_X4_simulate [.ref x, .long v, .int w] C Q X := by
  refine Mt_of (by decide) (Nat.le_of_ble_eq_true rfl) ?_
  obtain ⟨hk, π, hs, hv⟩ := id hR
  obtain ⟨hK, ⟨g0, g1, g2, g3, g4, g5, g6⟩, hTx, hNow, hHi, ⟨ks, ns, es⟩, ⟨kf, nf⟩, hTr, hPr, hSl, hgz⟩ := id hs
  have kTx := hTx.1
  have kNow := hNow.1
  have kHi := hHi.1
  have kTr := hTr.1
  have kPr := hPr.1
  obtain ⟨vT, vN, vH, vS⟩ : TxV (gI C) (x + 1) S n ∧ VaD (gI C) (x + 4) ρ ∧ HiV (gI C) (x + 17) π L ∧ SlV (gI C) x K := hv
  obtain ⟨ok1, ok2, ok3, ok4, ok5, ok6⟩ : Ok T ρ ∧ (∀ σ, σ ∈ L → Ok T σ) ∧ (∀ i σ, K i = some σ → Ok T σ) ∧ n ≤ 120 ∧ (∀ i, i < n → S i < 256) ∧ L.length ≤ 14 := hk
  obtain ⟨hW, hB⟩ := id ok1
  obtain ⟨b0, b3, b4, b5, b6, b7⟩ := id hB
  obtain ⟨w1, w2, w7, w8, w9, w10, w11, w11', w12, wB, wP⟩ := id hW
  obtain ⟨s0, s1, s2, s3, v4, v5, v6, v7, v8, v9, v10⟩ := SkD_f hNow vN
  refine x_iload_n dX4_simulate_0 rfl ?_
  refine x_iconst (v := nI 1) dX4_simulate_1 (by decide) ?_
  refine x_bipush (v := nI 30) dX4_simulate_2 (by decide) ?_
  refine x_callS (As := [_, _, _]) hO dX4_simulate_4 o_X4_requireWithin s_X4_requireWithin l_X4_44 ⟨by decide, by decide⟩ ⟨by decide, by decide⟩ rfl rfl (Nat.le_of_ble_eq_true rfl) (s_requireWithin hO hX (fun h5 => ?_) (fun h5 => ?_))
  · dsimp only [Option.toList, List.cons_append, List.nil_append]
    obtain ⟨k, hk0, hk9, rfl⟩ := (rng (by decide) (by decide)).mp h5
    have eA : aSim (S, n, ρ, L, K) v (nI k) = (0, simV ρ (xI v ρ k).2, (S, n, ρ, L, K)) := by
      unfold aSim
      rw [if_pos h5, nI_clamp (show k < 2 ^ 31 by omega)]
    rw [eA] at hq
    refine x_aload_n dX4_simulate_7 rfl ?_
    refine x_get 6 hO dX4_simulate_8 f_X4_38 (by first | (simp only [gK_wI]; assumption) | assumption) ⟨by decide, by decide⟩ (v := .ref (x + 203)) (congrArg va_rf g5) ?_
    refine x_aload_n dX4_simulate_11 rfl ?_
    refine x_get 6 hO dX4_simulate_12 f_X4_19 (by first | (simp only [gK_wI]; assumption) | assumption) ⟨by decide, by decide⟩ (v := .ref (x + 4)) (congrArg va_rf g1) ?_
    refine x_callV (As := [_]) 3 hO dX4_simulate_15 o_X1_becomeLike v_X1_becomeLike l_X4_261 ⟨by decide, by decide⟩ (by first | (simp only [gK_wI]; assumption) | assumption) ⟨by decide, by decide⟩ rfl ⟨by decide, by decide⟩ rfl rfl (Nat.le_of_ble_eq_true rfl) (s_becomeLike hO hTr hNow vN hW (by omega) (fun f p1 p2 => ?_))
    dsimp only [Option.toList, List.cons_append, List.nil_append]
    refine x_lload_n dX4_simulate_18 rfl ?_
    refine x_lstore dX4_simulate_19 (by decide) ?_
    refine x_iconst (v := nI 0) dX4_simulate_21 (by decide) ?_
    refine x_istore dX4_simulate_22 (by decide) ?_
    have loop : ∀ (kk nn m9 i : Nat) (f : Nat → Nat → Int32), k - i = m9 → i ≤ k → VaD f (x + 203) (xI v ρ i).2 → (∀ a : Nat, (a < x + 203 ∨ x + 229 ≤ a) → f a = gI C a) → Ex G M_X4_simulate Q X kk nn 24 [(0, .ref x), (1, .long v), (3, .int (nI k)), (4, .long (xI v ρ i).1), (6, .int (nI i))] [] (wI C f) := by
      intro kk nn m9
      induction m9 using Nat.strongRecOn with
      | _ m9 ih =>
      intro i f hm9 hi hVf hf
      refine x_iload dX4_simulate_24 rfl ?_
      refine x_iload_n dX4_simulate_26 rfl ?_
      refine x_icmp_ge (tgt := 58) dX4_simulate_27 (by decide) (fun c27 => ?_) (fun c27 => ?_)
      · simp (disch := omega) only [nI_leI] at c27
        have : i = k := by omega
        subst this
        refine x_sipush (v := nI 1000) dX4_simulate_58 (by decide) ?_
        refine x_aload_n dX4_simulate_61 rfl ?_
        refine x_get 6 hO dX4_simulate_62 f_X4_38 (by first | (simp only [gK_wI]; assumption) | assumption) ⟨by decide, by decide⟩ (v := .ref (x + 203)) (congrArg va_rf g5) ?_
        refine x_get 3 hO dX4_simulate_65 f_X4_98 (by first | (simp only [gK_wI]; assumption) | assumption) ⟨by decide, by decide⟩ (v := .int (nI ((xI v ρ i).2 5))) (congrArg Value.int hVf.2.2.2.2.2.1) ?_
        refine x_aload_n dX4_simulate_68 rfl ?_
        refine x_get 6 hO dX4_simulate_69 f_X4_19 (by first | (simp only [gK_wI]; assumption) | assumption) ⟨by decide, by decide⟩ (v := .ref (x + 4)) (congrArg va_rf g1) ?_
        refine x_get 3 hO dX4_simulate_72 f_X4_98 (by first | (simp only [gK_wI]; assumption) | assumption) ⟨by decide, by decide⟩ (v := .int (nI (ρ 5))) (congrArg Value.int ((congrFun (hf (x + 4) (by omega)) 9).trans vN.2.2.2.2.2.1)) ?_
        refine x_isub dX4_simulate_75 ?_
        refine x_imul dX4_simulate_76 ?_
        refine x_aload_n dX4_simulate_77 rfl ?_
        refine x_get 6 hO dX4_simulate_78 f_X4_38 (by first | (simp only [gK_wI]; assumption) | assumption) ⟨by decide, by decide⟩ (v := .ref (x + 203)) (congrArg va_rf g5) ?_
        refine x_get 3 hO dX4_simulate_81 f_X4_101 (by first | (simp only [gK_wI]; assumption) | assumption) ⟨by decide, by decide⟩ (v := .int (nI ((xI v ρ i).2 6))) (congrArg Value.int hVf.2.2.2.2.2.2.1) ?_
        refine x_aload_n dX4_simulate_84 rfl ?_
        refine x_get 6 hO dX4_simulate_85 f_X4_19 (by first | (simp only [gK_wI]; assumption) | assumption) ⟨by decide, by decide⟩ (v := .ref (x + 4)) (congrArg va_rf g1) ?_
        refine x_get 3 hO dX4_simulate_88 f_X4_101 (by first | (simp only [gK_wI]; assumption) | assumption) ⟨by decide, by decide⟩ (v := .int (nI (ρ 6))) (congrArg Value.int ((congrFun (hf (x + 4) (by omega)) 10).trans vN.2.2.2.2.2.2.1)) ?_
        refine x_isub dX4_simulate_91 ?_
        refine x_iadd dX4_simulate_92 ?_
        refine x_iret dX4_simulate_93 rfl rfl ?_
        exact hq rfl _ (RX_tr hR fun a ha => hf a ha) (Fr_wI fun a ha => hf a (by omega))
      · simp (disch := omega) only [nI_leI] at c27
        refine x_lload dX4_simulate_30 rfl ?_
        refine x_ldc2 hO.1 dX4_simulate_32 k_X4_292 ?_
        refine x_lmul dX4_simulate_35 ?_
        refine x_ldc2 hO.1 dX4_simulate_36 k_X4_294 ?_
        refine x_ladd dX4_simulate_39 ?_
        refine x_lstore dX4_simulate_40 (by decide) ?_
        refine x_aload_n dX4_simulate_42 rfl ?_
        refine x_lload dX4_simulate_43 rfl ?_
        refine x_bipush (v := nI 33) dX4_simulate_45 (by decide) ?_
        refine x_lushr dX4_simulate_47 ?_
        refine x_l2i dX4_simulate_48 ?_
        rw [show (xI v ρ i).1 * 6364136223846793005 + 1442695040888963407 = nxX (xI v ρ i).1 from rfl, rS_is]
        refine x_callV (As := [_]) 6 hO dX4_simulate_49 o_X4_simulateTurn v_X4_simulateTurn l_X4_296 ⟨by decide, by decide⟩ (by first | (simp only [gK_wI]; assumption) | assumption) ⟨by decide, by decide⟩ rfl ⟨Nat.zero_le _, Nat.zero_le _⟩ rfl rfl (Nat.le_of_ble_eq_true rfl) (s_simTurn (C0 := C) (f0 := f) (U := T + 9 * i) rfl hf hO hX hT hR hVf (Ok_xI ok1 i) (by omega) rS_lt (fun h49 v49 w49 => ?_))
        dsimp only [Option.toList, List.cons_append, List.nil_append]
        refine x_iinc (v := nI 1) dX4_simulate_52 rfl (by decide) (by decide) ?_
        refine x_goto (tgt := 24) dX4_simulate_55 (by decide) ?_
        try simp only [wI_wI, gI_wI]
        refine x_ls [(0, .ref x), (1, .long v), (3, .int (nI k)), (4, .long (xI v ρ (i + 1)).1), (6, .int (nI (i + 1)))] ⟨rfl, rfl, rfl, rfl, (by rw [← nI_add]; rfl), trivial⟩ ?_
        exact ih (m9 - 1) (by omega) (i + 1) h49 (by omega) (by omega) v49 w49
    refine x_ls [(0, .ref x), (1, .long v), (3, .int (nI k)), (4, .long (xI v ρ 0).1), (6, .int (nI 0))] ⟨rfl, rfl, rfl, rfl, rfl, trivial⟩ ?_
    exact loop _ _ _ 0 f rfl (Nat.zero_le _) p1 (fun a ha => p2 a (by omega))
  · have eA : aSim (S, n, ρ, L, K) v w = (1, 0, (S, n, ρ, L, K)) := if_neg h5
    rw [eA] at hx1
    exact fun z hz => hx1 rfl _ (RX_wZ hR hz) (Fr_wZ hz)

