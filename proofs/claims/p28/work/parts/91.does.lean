/-! the law: actions that are done, searches -/
theorem set_b {k : Nat} {ρ : Rw} (hW : Wf ρ) (hk : k ≤ 5) : ρ (7 + k) ≤ 999 := by
  obtain ⟨w1, w2, w7, w8, w9, w10, w11, w11', w12, wB, wP⟩ := hW
  match k, hk with
  | 0, _ => show ρ 7 ≤ 999; omega
  | 1, _ => show ρ 8 ≤ 999; omega
  | 2, _ => show ρ 9 ≤ 999; omega
  | 3, _ => show ρ 10 ≤ 999; omega
  | 4, _ => show ρ 11 ≤ 999; omega
  | 5, _ => show ρ 12 ≤ 999; omega
theorem hiS_b {k : Nat} : hiS k ≤ 999 := by
  unfold hiS
  repeat' split
  all_goals omega
theorem y_run {G : GT} {C : AH} {Q : QT} {C0 : AH} {sa va : Nat → Nat} {x T n : Nat} {S : Nat → Nat} {ρ : Rw} {L : List Rw} {K : Nat → Option Rw} {m : Nat} (hN : GN G) (hO : GO G) (hX : GX G sa va) (hT : T ≤ 40000) (h1 : 1 ≤ m) (h2 : m ≤ 48) (h : RF T C0 C x (S, n, ρ, L, K)) (hq : ∀ C' : AH, RF (T + 48) C0 C' x (S, n, runN m ρ, rem14 L ρ, K) → Q (some (.long (lN (runN m ρ 4 - ρ 4)))) C') : MtH G M_L_run hh_run [.ref x, .int (nI m)] C Q := by
  have hk : Ok T ρ := h.1.1.1
  obtain ⟨hW, hB⟩ := id hk
  obtain ⟨w1, w2, w7, w8, w9, w10, w11, w11', w12, wB, wP⟩ := id hW
  refine l_run hN hO hX hT h (fun C1 hz9 => ?_)
  have e9 : aRun (S, n, ρ, L, K) (nI m) = (0, nI (runN m ρ 4 - ρ 4), (S, n, runN m ρ, rem14 L ρ, K)) := by
    unfold aRun
    rw [if_pos ⟨nI_le h1 (by omega), nI_le h2 (by decide)⟩, nI_clamp (by omega), pk_sub (runN_up (k := 1) (by decide))]
  rw [e9] at hz9
  exact q_eq (by rw [e9]; exact (nI_l (by have : runN m ρ 4 < 2 ^ 31 := runN_b (k := 1) hk (by omega) (by decide); omega)).symm) (hq C1 hz9)
theorem y_set {G : GT} {C : AH} {Q : QT} {C0 : AH} {sa va : Nat → Nat} {x T n : Nat} {S : Nat → Nat} {ρ : Rw} {L : List Rw} {K : Nat → Option Rw} {k v : Nat} (hN : GN G) (hO : GO G) (hX : GX G sa va) (hT : T ≤ 40000) (hkv : okSN k v) (h : RF T C0 C x (S, n, ρ, L, K)) (hq : ∀ C' : AH, RF (T) C0 C' x (S, n, stS ρ k v, rem14 L ρ, K) → Q (some (.long (lN (ρ (7 + k))))) C') : MtH G M_L_set hh_set [.ref x, .int (nI k), .int (nI v)] C Q := by
  have hk : Ok T ρ := h.1.1.1
  obtain ⟨hW, hB⟩ := id hk
  obtain ⟨w1, w2, w7, w8, w9, w10, w11, w11', w12, wB, wP⟩ := id hW
  refine l_set hN hO hX hT h (fun C1 hz9 => ?_)
  have e9 : aSet (S, n, ρ, L, K) (nI k) (nI v) = (0, nI (ρ (7 + k)), (S, n, stS ρ k v, rem14 L ρ, K)) := by
    unfold aSet
    have hb := hkv.2.2
    have hi := hiS_b (k := k)
    have hk6 := hkv.1
    rw [if_pos (okS_N.mpr ⟨k, v, rfl, rfl, hkv⟩), nI_clamp (show k < 2 ^ 31 by omega), nI_clamp (show v < 2 ^ 31 by omega)]
  rw [e9] at hz9
  exact q_eq (by rw [e9]; exact (nI_l (by have := set_b (k := k) hW (by have := hkv.1; omega); omega)).symm) (hq C1 hz9)
theorem y_addCharger {G : GT} {C : AH} {Q : QT} {C0 : AH} {sa va : Nat → Nat} {x T n : Nat} {S : Nat → Nat} {ρ : Rw} {L : List Rw} {K : Nat → Option Rw} {p : Nat} (hN : GN G) (hO : GO G) (hX : GX G sa va) (hT : T ≤ 40000) (h1 : 1 ≤ p) (h2 : p ≤ 50) (h5 : ¬ ρ 2 = 5) (h : RF T C0 C x (S, n, ρ, L, K)) (hq : ∀ C' : AH, RF (T) C0 C' x (S, n, addC ρ p, rem14 L ρ, K) → Q (some (.long (lN (ρ 2)))) C') : MtH G M_L_addCharger hh_addCharger [.ref x, .int (nI p)] C Q := by
  have hk : Ok T ρ := h.1.1.1
  obtain ⟨hW, hB⟩ := id hk
  obtain ⟨w1, w2, w7, w8, w9, w10, w11, w11', w12, wB, wP⟩ := id hW
  refine l_addCharger hN hO hX hT h (fun C1 hz9 => ?_)
  have e9 : aAddC (S, n, ρ, L, K) (nI p) = (0, nI (ρ 2), (S, n, addC ρ p, rem14 L ρ, K)) := by
    unfold aAddC
    rw [if_pos ⟨nI_le h1 (by omega), nI_le h2 (by decide)⟩, if_neg (show ¬ ρ 2 = 5 from h5), nI_clamp (by omega)]
  rw [e9] at hz9
  exact q_eq (by rw [e9]; exact (nI_l (by omega)).symm) (hq C1 hz9)
theorem y_battery {G : GT} {C : AH} {Q : QT} {C0 : AH} {sa va : Nat → Nat} {x T n : Nat} {S : Nat → Nat} {ρ : Rw} {L : List Rw} {K : Nat → Option Rw} {a b : Nat} (hN : GN G) (hO : GO G) (hX : GX G sa va) (hT : T ≤ 40000) (hb : b < ρ 1) (ho : ρ (bi b 6) = 0) (h1 : 10 ≤ a) (h2 : a ≤ 400) (h : RF T C0 C x (S, n, ρ, L, K)) (hq : ∀ C' : AH, RF (T) C0 C' x (S, n, btB ρ b a, rem14 L ρ, K) → Q (some (.long (lN (ρ (bi b 0))))) C') : MtH G M_L_battery hh_battery [.ref x, .int (nI b), .int (nI a)] C Q := by
  have hk : Ok T ρ := h.1.1.1
  obtain ⟨hW, hB⟩ := id hk
  obtain ⟨w1, w2, w7, w8, w9, w10, w11, w11', w12, wB, wP⟩ := id hW
  refine l_battery hN hO hX hT h (fun C1 hz9 => ?_)
  have e9 : aBattery (S, n, ρ, L, K) (nI b) (nI a) = (0, nI (ρ (bi b 0)), (S, n, btB ρ b a, rem14 L ρ, K)) := by
    unfold aBattery
    rw [if_pos ((isB_N w1 (by omega)).mpr hb), if_pos ⟨nI_le h1 (by omega), nI_le h2 (by decide)⟩, nI_clamp (show b < 2 ^ 31 by omega), nI_clamp (show a < 2 ^ 31 by omega), if_neg (show ¬ ρ (bi b 6) = 1 by omega)]
  rw [e9] at hz9
  exact q_eq (by rw [e9]; exact (nI_l (by have := (wB b hb).2.1; omega)).symm) (hq C1 hz9)
theorem y_save {G : GT} {C : AH} {Q : QT} {C0 : AH} {sa va : Nat → Nat} {x T n : Nat} {S : Nat → Nat} {ρ : Rw} {L : List Rw} {K : Nat → Option Rw}  (hN : GN G) (hO : GO G) (hX : GX G sa va) (hT : T ≤ 40000) (h : RF T C0 C x (S, n, ρ, L, K)) (hq : ∀ C' : AH, RF (T) C0 C' x (S, n, ρ, L, (fun i => if i = 1 then some ρ else K i)) → Q (some (.long (lN (ρ 0)))) C') : MtH G M_L_save hh_save [.ref x, .int (nI 1)] C Q := by
  have hk : Ok T ρ := h.1.1.1
  obtain ⟨hW, hB⟩ := id hk
  obtain ⟨w1, w2, w7, w8, w9, w10, w11, w11', w12, wB, wP⟩ := id hW
  refine l_save hN hO hX hT h (fun C1 hz9 => ?_)
  have e9 : aSave (S, n, ρ, L, K) (nI 1) = (0, nI (ρ 0), (S, n, ρ, L, (fun i => if i = 1 then some ρ else K i))) := by
    unfold aSave
    rw [if_pos (by decide), nI_clamp (by decide)]
  rw [e9] at hz9
  exact q_eq (by rw [e9]; exact (nI_l (by have := hB.1; omega)).symm) (hq C1 hz9)
theorem y_restore {G : GT} {C : AH} {Q : QT} {C0 : AH} {sa va : Nat → Nat} {x T n : Nat} {S : Nat → Nat} {ρ : Rw} {L : List Rw} {K : Nat → Option Rw} {σ : Rw} (hN : GN G) (hO : GO G) (hX : GX G sa va) (hT : T ≤ 40000) (hK9 : K 1 = some σ) (h : RF T C0 C x (S, n, ρ, L, K)) (hq : ∀ C' : AH, RF T C0 C' x (S, n, σ, [], K) → Q (some (.long (lN (σ 0)))) C') : MtH G M_L_restore hh_restore [.ref x, .int (nI 1)] C Q := by
  have hk := h.1.1.2.2.1 1 σ hK9
  refine l_restore hN hO hX hT h (fun C1 hz9 => ?_)
  have e9 : aRestore (S, n, ρ, L, K) (nI 1) = (0, nI (σ 0), (S, n, σ, [], K)) := by
    unfold aRestore
    rw [if_pos (by decide), nI_clamp (by decide)]
    show (match K 1 with | none => _ | some σ => _) = _
    rw [hK9]
  rw [e9] at hz9
  exact q_eq (by rw [e9]; exact (nI_l (by have := hk.2.1; omega)).symm) (hq C1 hz9)
theorem y_undo {G : GT} {C : AH} {Q : QT} {C0 : AH} {sa va : Nat → Nat} {x T n : Nat} {S : Nat → Nat} {ρ : Rw} {L : List Rw} {K : Nat → Option Rw} {σ : Rw} (hN : GN G) (hO : GO G) (hX : GX G sa va) (hT : T ≤ 40000) (hL : L.length ≤ 14) (h : RF T C0 C x (S, n, σ, rem14 L ρ, K)) (hq : ∀ (j : Nat) (C' : AH), j ≤ 14 → RF T C0 C' x (S, n, ρ, dl L, K) → Q (some (.long (lN j))) C') : MtH G M_L_undo hh_undo [.ref x] C Q := by
  refine l_undo hN hO hX hT h (fun C1 hz9 => ?_)
  obtain ⟨r1, r2⟩ := rem_un (L := L) (ρ := ρ)
  have e9 : aUndo (S, n, σ, rem14 L ρ, K) = (0, nI ((rem14 L ρ).length - 1), (S, n, ρ, dl L, K)) := by
    unfold aUndo
    show (match (rem14 L ρ).getLast? with | none => _ | some σ => _) = _
    rw [r1]
    show (0, nI ((rem14 L ρ).length - 1), (S, n, ρ, (rem14 L ρ).dropLast, K)) = _
    rw [r2]
  have hl : (rem14 L ρ).length ≤ 14 := (rem_len (L := L) (ρ := ρ)).resolve_right (by omega)
  rw [e9] at hz9
  exact q_eq (by rw [e9]; exact (nI_l (by omega)).symm) (hq _ C1 (by omega) hz9)
theorem y_undoS {G : GT} {C : AH} {Q : QT} {C0 : AH} {sa va : Nat → Nat} {x T n : Nat} {S : Nat → Nat} {ρ : Rw} {L : List Rw} {K : Nat → Option Rw} {σ : Rw} (hN : GN G) (hO : GO G) (hX : GX G sa va) (hT : T ≤ 40000) (hL : L.length < 14) (h : RF T C0 C x (S, n, σ, rem14 L ρ, K)) (hq : ∀ (j : Nat) (C' : AH), j ≤ 14 → RF T C0 C' x (S, n, ρ, L, K) → Q (some (.long (lN j))) C') : MtH G M_L_undo hh_undo [.ref x] C Q :=
  y_undo hN hO hX hT (by omega) h fun j C' hj h' => hq j C' hj (by rw [dl_id hL] at h'; exact h')
theorem q_firI {G : GT} {C : AH} {Q : QT} {C0 : AH} {sa va : Nat → Nat} {x T n : Nat} {S : Nat → Nat} {ρ : Rw} {L : List Rw} {K : Nat → Option Rw} {b : Nat} {r : Int32} (hN : GN G) (hO : GO G) (hX : GX G sa va) (hT : T ≤ 40000) (hb : b < ρ 1) (e : fmS b 72 ρ = r) (h : RF T C0 C x (S, n, ρ, L, K)) (hq : ∀ C' : AH, RF T C0 C' x (S, n, ρ, L, K) → Q (some (.long r.toInt64)) C') : MtH G M_L_firstMissed hh_firstMissed [.ref x, .int (nI b)] C Q :=
  q_firstMissed hN hO hX hT h fun C' h' => q_eq (by
    have w1 : ρ 1 ≤ 8 := h.1.1.1.1.1
    unfold vFi
    rw [if_pos ((isB_N w1 (by omega)).mpr hb), nI_clamp (by omega), e]) (hq C' h')
theorem q_leaI {G : GT} {C : AH} {Q : QT} {C0 : AH} {sa va : Nat → Nat} {x T n : Nat} {S : Nat → Nat} {ρ : Rw} {L : List Rw} {K : Nat → Option Rw} {m : Nat} {r : Int32} (hN : GN G) (hO : GO G) (hX : GX G sa va) (hT : T ≤ 40000) (h1 : 1 ≤ m) (h2 : m ≤ 72) (e : llS ρ m 26 0 = r) (h : RF T C0 C x (S, n, ρ, L, K)) (hq : ∀ C' : AH, RF T C0 C' x (S, n, ρ, L, K) → Q (some (.long r.toInt64)) C') : MtH G M_L_leastLimit hh_leastLimit [.ref x, .int (nI m)] C Q :=
  q_leastLimit hN hO hX hT h fun C' h' => q_eq (by
    unfold vLe
    rw [if_pos ⟨nI_le h1 (by omega), nI_le h2 (by decide)⟩, nI_clamp (by omega), e]) (hq C' h')
theorem q_besN {G : GT} {C : AH} {Q : QT} {C0 : AH} {sa va : Nat → Nat} {x T n : Nat} {S : Nat → Nat} {ρ : Rw} {L : List Rw} {K : Nat → Option Rw} {m z : Nat} (hN : GN G) (hO : GO G) (hX : GX G sa va) (hT : T ≤ 40000) (h1 : 1 ≤ m) (h2 : m ≤ 72) (e : (bsS (cst ρ m) 23).1 = z) (hz : z ≤ 23) (h : RF T C0 C x (S, n, ρ, L, K)) (hq : ∀ C' : AH, RF T C0 C' x (S, n, ρ, L, K) → Q (some (.long (lN z))) C') : MtH G M_L_bestNight hh_bestNight [.ref x, .int (nI m)] C Q :=
  q_bestNight hN hO hX hT h fun C' h' => q_eq (by
    unfold vBe
    rw [if_pos ⟨nI_le h1 (by omega), nI_le h2 (by decide)⟩, nI_clamp (by omega), e, nI_l (by omega)]) (hq C' h')
theorem addC_5 {ρ : Rw} {p : Nat} : addC ρ p 5 = ρ 5 := by
  unfold addC
  rw [uN_n (by decide), uN_n (by omega)]
theorem q_ifpN {G : GT} {C : AH} {Q : QT} {C0 : AH} {sa va : Nat → Nat} {x T n : Nat} {S : Nat → Nat} {ρ : Rw} {L : List Rw} {K : Nat → Option Rw} {p m : Nat} (hN : GN G) (hO : GO G) (hX : GX G sa va) (hT : T ≤ 40000) (p1 : 1 ≤ p) (p2 : p ≤ 50) (h1 : 1 ≤ m) (h2 : m ≤ 72) (h5 : ¬ ρ 2 = 5) (h : RF T C0 C x (S, n, ρ, L, K)) (hq : ∀ C' : AH, RF T C0 C' x (S, n, ρ, L, K) → Q (some (.long (lN (runN m (addC ρ p) 5 - ρ 5)))) C') : MtH G M_L_ifPlugged hh_ifPlugged [.ref x, .int (nI p), .int (nI m)] C Q :=
  q_ifPlugged hN hO hX hT h fun C' h' => q_eq (by
    have hk : Ok T ρ := h.1.1.1
    have w2 : ρ 2 ≤ 5 := hk.1.2.1
    have hk2 := Ok_addC (p := p) hk p1 p2 (by omega)
    have up : addC ρ p (3 + 2) ≤ runN m (addC ρ p) (3 + 2) := runN_up (by decide)
    have bb := runN_b (n := m) (k := 2) hk2 (by omega) (by decide)
    rw [show (3 + 2) = 5 from rfl, addC_5] at up
    rw [show (3 + 2) = 5 from rfl] at bb
    unfold vIf
    rw [if_pos ⟨nI_le p1 (by omega), nI_le p2 (by decide)⟩, if_pos ⟨nI_le h1 (by omega), nI_le h2 (by decide)⟩, if_neg h5, nI_clamp (by omega), nI_clamp (by omega), pk_sub up, nI_l (by omega)]) (hq C' h')
theorem q_ifp5 {G : GT} {C : AH} {Q : QT} {C0 : AH} {sa va : Nat → Nat} {x T n : Nat} {S : Nat → Nat} {ρ : Rw} {L : List Rw} {K : Nat → Option Rw} {p m : Nat} (hN : GN G) (hO : GO G) (hX : GX G sa va) (hT : T ≤ 40000) (p1 : 1 ≤ p) (p2 : p ≤ 50) (h1 : 1 ≤ m) (h2 : m ≤ 72) (h5 : ρ 2 = 5) (h : RF T C0 C x (S, n, ρ, L, K)) (hq : ∀ C' : AH, RF T C0 C' x (S, n, ρ, L, K) → Q (some (.long jS)) C') : MtH G M_L_ifPlugged hh_ifPlugged [.ref x, .int (nI p), .int (nI m)] C Q :=
  q_ifPlugged hN hO hX hT h fun C' h' => q_eq (vIf_5 ⟨nI_le p1 (by omega), nI_le p2 (by decide)⟩ ⟨nI_le h1 (by omega), nI_le h2 (by decide)⟩ h5).symm (hq C' h')
theorem lnN {z : Nat} (hz : z < 2 ^ 31) : ¬ lN z = -1 := fun q => by
  have := (eL_none (o := some z) fun c q => by have := Option.some.inj q; omega).mp q
  cases this
theorem lnS {z : Nat} (hz : z < 2 ^ 31) : ¬ lN z = jS := fun q => by
  have e := congrArg Int64.toInt q
  rw [pk_lT (by omega)] at e
  have : (jS : Int64).toInt = -9000000000000000003 := by decide
  omega
