/-! long comparisons, roads that are known; what the questions answer -/
section XD
variable {G : GT} {M : MI} {Q : QT} {X : XT} {k n pc : Nat} {ls : List (Nat × Value)} {st : List Value} {C : AH}
theorem x_if_eqN {x : Int32} {off : Int} {tgt : Nat} (d : decode (mB M) pc = .ok (.ifCond .eq off, 3)) (ht : (pc : Int) + off = (tgt : Int)) (e : ¬ x = 0) (kk : Ex G M Q X k n (pc + 3) ls st C) : Ex G M Q X k n pc ls (.int x :: st) C := x_if_eq d ht (fun c => absurd c e) (fun _ => kk)
theorem x_icmp_eqN {x y : Int32} {off : Int} {tgt : Nat} (d : decode (mB M) pc = .ok (.if_icmp .eq off, 3)) (ht : (pc : Int) + off = (tgt : Int)) (e : ¬ x = y) (kk : Ex G M Q X k n (pc + 3) ls st C) : Ex G M Q X k n pc ls (.int y :: .int x :: st) C := x_icmp_eq d ht (fun c => absurd c e) (fun _ => kk)
theorem x_lc_eqN {x y : Int64} {off : Int} {tgt : Nat} (d1 : decode (mB M) pc = .ok (.lcmp, 1)) (d2 : decode (mB M) (pc + 1) = .ok (.ifCond .eq off, 3)) (ht : ((pc + 1 : Nat) : Int) + off = (tgt : Int)) (e : ¬ x = y) (kk : Ex G M Q X k n (pc + 1 + 3) ls st C) : Ex G M Q X k n pc ls (.long y :: .long x :: st) C := x_lcmp d1 (x_if_eqN d2 ht (fun q => e ((lg_cmp_eq x y).mp q)) kk)
theorem x_if_eqT {x : Int32} {off : Int} {tgt : Nat} (d : decode (mB M) pc = .ok (.ifCond .eq off, 3)) (ht : (pc : Int) + off = (tgt : Int)) (e : x = 0) (kk : Ex G M Q X k n tgt ls st C) : Ex G M Q X k n pc ls (.int x :: st) C := x_if_eq d ht (fun _ => kk) (fun c => absurd e c)
theorem x_icmp_eqT {x y : Int32} {off : Int} {tgt : Nat} (d : decode (mB M) pc = .ok (.if_icmp .eq off, 3)) (ht : (pc : Int) + off = (tgt : Int)) (e : x = y) (kk : Ex G M Q X k n tgt ls st C) : Ex G M Q X k n pc ls (.int y :: .int x :: st) C := x_icmp_eq d ht (fun _ => kk) (fun c => absurd e c)
theorem x_lc_eqT {x y : Int64} {off : Int} {tgt : Nat} (d1 : decode (mB M) pc = .ok (.lcmp, 1)) (d2 : decode (mB M) (pc + 1) = .ok (.ifCond .eq off, 3)) (ht : ((pc + 1 : Nat) : Int) + off = (tgt : Int)) (e : x = y) (kk : Ex G M Q X k n tgt ls st C) : Ex G M Q X k n pc ls (.long y :: .long x :: st) C := x_lcmp d1 (x_if_eqT d2 ht ((lg_cmp_eq x y).mpr e) kk)
theorem x_if_neN {x : Int32} {off : Int} {tgt : Nat} (d : decode (mB M) pc = .ok (.ifCond .ne off, 3)) (ht : (pc : Int) + off = (tgt : Int)) (e : x = 0) (kk : Ex G M Q X k n (pc + 3) ls st C) : Ex G M Q X k n pc ls (.int x :: st) C := x_if_ne d ht (fun c => absurd e c) (fun _ => kk)
theorem x_icmp_neN {x y : Int32} {off : Int} {tgt : Nat} (d : decode (mB M) pc = .ok (.if_icmp .ne off, 3)) (ht : (pc : Int) + off = (tgt : Int)) (e : x = y) (kk : Ex G M Q X k n (pc + 3) ls st C) : Ex G M Q X k n pc ls (.int y :: .int x :: st) C := x_icmp_ne d ht (fun c => absurd e c) (fun _ => kk)
theorem x_lc_neN {x y : Int64} {off : Int} {tgt : Nat} (d1 : decode (mB M) pc = .ok (.lcmp, 1)) (d2 : decode (mB M) (pc + 1) = .ok (.ifCond .ne off, 3)) (ht : ((pc + 1 : Nat) : Int) + off = (tgt : Int)) (e : x = y) (kk : Ex G M Q X k n (pc + 1 + 3) ls st C) : Ex G M Q X k n pc ls (.long y :: .long x :: st) C := x_lcmp d1 (x_if_neN d2 ht ((lg_cmp_eq x y).mpr e) kk)
theorem x_if_neT {x : Int32} {off : Int} {tgt : Nat} (d : decode (mB M) pc = .ok (.ifCond .ne off, 3)) (ht : (pc : Int) + off = (tgt : Int)) (e : ¬ x = 0) (kk : Ex G M Q X k n tgt ls st C) : Ex G M Q X k n pc ls (.int x :: st) C := x_if_ne d ht (fun _ => kk) (fun c => absurd c e)
theorem x_icmp_neT {x y : Int32} {off : Int} {tgt : Nat} (d : decode (mB M) pc = .ok (.if_icmp .ne off, 3)) (ht : (pc : Int) + off = (tgt : Int)) (e : ¬ x = y) (kk : Ex G M Q X k n tgt ls st C) : Ex G M Q X k n pc ls (.int y :: .int x :: st) C := x_icmp_ne d ht (fun _ => kk) (fun c => absurd c e)
theorem x_lc_neT {x y : Int64} {off : Int} {tgt : Nat} (d1 : decode (mB M) pc = .ok (.lcmp, 1)) (d2 : decode (mB M) (pc + 1) = .ok (.ifCond .ne off, 3)) (ht : ((pc + 1 : Nat) : Int) + off = (tgt : Int)) (e : ¬ x = y) (kk : Ex G M Q X k n tgt ls st C) : Ex G M Q X k n pc ls (.long y :: .long x :: st) C := x_lcmp d1 (x_if_neT d2 ht (fun q => e ((lg_cmp_eq x y).mp q)) kk)
theorem x_if_ltN {x : Int32} {off : Int} {tgt : Nat} (d : decode (mB M) pc = .ok (.ifCond .lt off, 3)) (ht : (pc : Int) + off = (tgt : Int)) (e : ¬ x < 0) (kk : Ex G M Q X k n (pc + 3) ls st C) : Ex G M Q X k n pc ls (.int x :: st) C := x_if_lt d ht (fun c => absurd c e) (fun _ => kk)
theorem x_icmp_ltN {x y : Int32} {off : Int} {tgt : Nat} (d : decode (mB M) pc = .ok (.if_icmp .lt off, 3)) (ht : (pc : Int) + off = (tgt : Int)) (e : ¬ x < y) (kk : Ex G M Q X k n (pc + 3) ls st C) : Ex G M Q X k n pc ls (.int y :: .int x :: st) C := x_icmp_lt d ht (fun c => absurd c e) (fun _ => kk)
theorem x_lc_ltN {x y : Int64} {off : Int} {tgt : Nat} (d1 : decode (mB M) pc = .ok (.lcmp, 1)) (d2 : decode (mB M) (pc + 1) = .ok (.ifCond .lt off, 3)) (ht : ((pc + 1 : Nat) : Int) + off = (tgt : Int)) (e : ¬ x < y) (kk : Ex G M Q X k n (pc + 1 + 3) ls st C) : Ex G M Q X k n pc ls (.long y :: .long x :: st) C := x_lcmp d1 (x_if_ltN d2 ht (fun q => e ((lg_cmp_lt x y).mp q)) kk)
theorem x_if_ltT {x : Int32} {off : Int} {tgt : Nat} (d : decode (mB M) pc = .ok (.ifCond .lt off, 3)) (ht : (pc : Int) + off = (tgt : Int)) (e : x < 0) (kk : Ex G M Q X k n tgt ls st C) : Ex G M Q X k n pc ls (.int x :: st) C := x_if_lt d ht (fun _ => kk) (fun c => absurd e c)
theorem x_icmp_ltT {x y : Int32} {off : Int} {tgt : Nat} (d : decode (mB M) pc = .ok (.if_icmp .lt off, 3)) (ht : (pc : Int) + off = (tgt : Int)) (e : x < y) (kk : Ex G M Q X k n tgt ls st C) : Ex G M Q X k n pc ls (.int y :: .int x :: st) C := x_icmp_lt d ht (fun _ => kk) (fun c => absurd e c)
theorem x_lc_ltT {x y : Int64} {off : Int} {tgt : Nat} (d1 : decode (mB M) pc = .ok (.lcmp, 1)) (d2 : decode (mB M) (pc + 1) = .ok (.ifCond .lt off, 3)) (ht : ((pc + 1 : Nat) : Int) + off = (tgt : Int)) (e : x < y) (kk : Ex G M Q X k n tgt ls st C) : Ex G M Q X k n pc ls (.long y :: .long x :: st) C := x_lcmp d1 (x_if_ltT d2 ht ((lg_cmp_lt x y).mpr e) kk)
theorem x_if_geN {x : Int32} {off : Int} {tgt : Nat} (d : decode (mB M) pc = .ok (.ifCond .ge off, 3)) (ht : (pc : Int) + off = (tgt : Int)) (e : ¬ 0 ≤ x) (kk : Ex G M Q X k n (pc + 3) ls st C) : Ex G M Q X k n pc ls (.int x :: st) C := x_if_ge d ht (fun c => absurd c e) (fun _ => kk)
theorem x_icmp_geN {x y : Int32} {off : Int} {tgt : Nat} (d : decode (mB M) pc = .ok (.if_icmp .ge off, 3)) (ht : (pc : Int) + off = (tgt : Int)) (e : ¬ y ≤ x) (kk : Ex G M Q X k n (pc + 3) ls st C) : Ex G M Q X k n pc ls (.int y :: .int x :: st) C := x_icmp_ge d ht (fun c => absurd c e) (fun _ => kk)
theorem x_lc_geN {x y : Int64} {off : Int} {tgt : Nat} (d1 : decode (mB M) pc = .ok (.lcmp, 1)) (d2 : decode (mB M) (pc + 1) = .ok (.ifCond .ge off, 3)) (ht : ((pc + 1 : Nat) : Int) + off = (tgt : Int)) (e : ¬ y ≤ x) (kk : Ex G M Q X k n (pc + 1 + 3) ls st C) : Ex G M Q X k n pc ls (.long y :: .long x :: st) C := x_lcmp d1 (x_if_geN d2 ht (fun q => e ((lg_cmp_ge x y).mp q)) kk)
theorem x_if_geT {x : Int32} {off : Int} {tgt : Nat} (d : decode (mB M) pc = .ok (.ifCond .ge off, 3)) (ht : (pc : Int) + off = (tgt : Int)) (e : 0 ≤ x) (kk : Ex G M Q X k n tgt ls st C) : Ex G M Q X k n pc ls (.int x :: st) C := x_if_ge d ht (fun _ => kk) (fun c => absurd e c)
theorem x_icmp_geT {x y : Int32} {off : Int} {tgt : Nat} (d : decode (mB M) pc = .ok (.if_icmp .ge off, 3)) (ht : (pc : Int) + off = (tgt : Int)) (e : y ≤ x) (kk : Ex G M Q X k n tgt ls st C) : Ex G M Q X k n pc ls (.int y :: .int x :: st) C := x_icmp_ge d ht (fun _ => kk) (fun c => absurd e c)
theorem x_lc_geT {x y : Int64} {off : Int} {tgt : Nat} (d1 : decode (mB M) pc = .ok (.lcmp, 1)) (d2 : decode (mB M) (pc + 1) = .ok (.ifCond .ge off, 3)) (ht : ((pc + 1 : Nat) : Int) + off = (tgt : Int)) (e : y ≤ x) (kk : Ex G M Q X k n tgt ls st C) : Ex G M Q X k n pc ls (.long y :: .long x :: st) C := x_lcmp d1 (x_if_geT d2 ht ((lg_cmp_ge x y).mpr e) kk)
theorem x_if_gtN {x : Int32} {off : Int} {tgt : Nat} (d : decode (mB M) pc = .ok (.ifCond .gt off, 3)) (ht : (pc : Int) + off = (tgt : Int)) (e : ¬ 0 < x) (kk : Ex G M Q X k n (pc + 3) ls st C) : Ex G M Q X k n pc ls (.int x :: st) C := x_if_gt d ht (fun c => absurd c e) (fun _ => kk)
theorem x_icmp_gtN {x y : Int32} {off : Int} {tgt : Nat} (d : decode (mB M) pc = .ok (.if_icmp .gt off, 3)) (ht : (pc : Int) + off = (tgt : Int)) (e : ¬ y < x) (kk : Ex G M Q X k n (pc + 3) ls st C) : Ex G M Q X k n pc ls (.int y :: .int x :: st) C := x_icmp_gt d ht (fun c => absurd c e) (fun _ => kk)
theorem x_lc_gtN {x y : Int64} {off : Int} {tgt : Nat} (d1 : decode (mB M) pc = .ok (.lcmp, 1)) (d2 : decode (mB M) (pc + 1) = .ok (.ifCond .gt off, 3)) (ht : ((pc + 1 : Nat) : Int) + off = (tgt : Int)) (e : ¬ y < x) (kk : Ex G M Q X k n (pc + 1 + 3) ls st C) : Ex G M Q X k n pc ls (.long y :: .long x :: st) C := x_lcmp d1 (x_if_gtN d2 ht (fun q => e ((lg_cmp_gt x y).mp q)) kk)
theorem x_if_gtT {x : Int32} {off : Int} {tgt : Nat} (d : decode (mB M) pc = .ok (.ifCond .gt off, 3)) (ht : (pc : Int) + off = (tgt : Int)) (e : 0 < x) (kk : Ex G M Q X k n tgt ls st C) : Ex G M Q X k n pc ls (.int x :: st) C := x_if_gt d ht (fun _ => kk) (fun c => absurd e c)
theorem x_icmp_gtT {x y : Int32} {off : Int} {tgt : Nat} (d : decode (mB M) pc = .ok (.if_icmp .gt off, 3)) (ht : (pc : Int) + off = (tgt : Int)) (e : y < x) (kk : Ex G M Q X k n tgt ls st C) : Ex G M Q X k n pc ls (.int y :: .int x :: st) C := x_icmp_gt d ht (fun _ => kk) (fun c => absurd e c)
theorem x_lc_gtT {x y : Int64} {off : Int} {tgt : Nat} (d1 : decode (mB M) pc = .ok (.lcmp, 1)) (d2 : decode (mB M) (pc + 1) = .ok (.ifCond .gt off, 3)) (ht : ((pc + 1 : Nat) : Int) + off = (tgt : Int)) (e : y < x) (kk : Ex G M Q X k n tgt ls st C) : Ex G M Q X k n pc ls (.long y :: .long x :: st) C := x_lcmp d1 (x_if_gtT d2 ht ((lg_cmp_gt x y).mpr e) kk)
theorem x_if_leN {x : Int32} {off : Int} {tgt : Nat} (d : decode (mB M) pc = .ok (.ifCond .le off, 3)) (ht : (pc : Int) + off = (tgt : Int)) (e : ¬ x ≤ 0) (kk : Ex G M Q X k n (pc + 3) ls st C) : Ex G M Q X k n pc ls (.int x :: st) C := x_if_le d ht (fun c => absurd c e) (fun _ => kk)
theorem x_icmp_leN {x y : Int32} {off : Int} {tgt : Nat} (d : decode (mB M) pc = .ok (.if_icmp .le off, 3)) (ht : (pc : Int) + off = (tgt : Int)) (e : ¬ x ≤ y) (kk : Ex G M Q X k n (pc + 3) ls st C) : Ex G M Q X k n pc ls (.int y :: .int x :: st) C := x_icmp_le d ht (fun c => absurd c e) (fun _ => kk)
theorem x_lc_leN {x y : Int64} {off : Int} {tgt : Nat} (d1 : decode (mB M) pc = .ok (.lcmp, 1)) (d2 : decode (mB M) (pc + 1) = .ok (.ifCond .le off, 3)) (ht : ((pc + 1 : Nat) : Int) + off = (tgt : Int)) (e : ¬ x ≤ y) (kk : Ex G M Q X k n (pc + 1 + 3) ls st C) : Ex G M Q X k n pc ls (.long y :: .long x :: st) C := x_lcmp d1 (x_if_leN d2 ht (fun q => e ((lg_cmp_le x y).mp q)) kk)
theorem x_if_leT {x : Int32} {off : Int} {tgt : Nat} (d : decode (mB M) pc = .ok (.ifCond .le off, 3)) (ht : (pc : Int) + off = (tgt : Int)) (e : x ≤ 0) (kk : Ex G M Q X k n tgt ls st C) : Ex G M Q X k n pc ls (.int x :: st) C := x_if_le d ht (fun _ => kk) (fun c => absurd e c)
theorem x_icmp_leT {x y : Int32} {off : Int} {tgt : Nat} (d : decode (mB M) pc = .ok (.if_icmp .le off, 3)) (ht : (pc : Int) + off = (tgt : Int)) (e : x ≤ y) (kk : Ex G M Q X k n tgt ls st C) : Ex G M Q X k n pc ls (.int y :: .int x :: st) C := x_icmp_le d ht (fun _ => kk) (fun c => absurd e c)
theorem x_lc_leT {x y : Int64} {off : Int} {tgt : Nat} (d1 : decode (mB M) pc = .ok (.lcmp, 1)) (d2 : decode (mB M) (pc + 1) = .ok (.ifCond .le off, 3)) (ht : ((pc + 1 : Nat) : Int) + off = (tgt : Int)) (e : x ≤ y) (kk : Ex G M Q X k n tgt ls st C) : Ex G M Q X k n pc ls (.long y :: .long x :: st) C := x_lcmp d1 (x_if_leT d2 ht ((lg_cmp_le x y).mpr e) kk)
theorem x_room {k9 n9 : Nat} (hk : k ≤ k9) (hn : n ≤ n9) (h : Ex G M Q X k n pc ls st C) : Ex G M Q X k9 n9 pc ls st C := fun p l e R s m args below meth c Qf S E H locs cells slots lsA hr hL hc hs hv => h p l e R s m args below meth c Qf S E H locs cells slots lsA hr hL (by omega) (by omega) hv
theorem x_cX {idx np c9 s9 : Nat} {Z : MI} {hh : List (Nat × Nat × Nat × Nat)} {As rest : List Value} (hO : GO G) (d : decode (mB M) pc = .ok (.invokestatic idx, 3)) (hm : mOkH Z hh np) (hv2 : Cond.static (mY Z) ∈ TT) (hl : Cond.methodLink (mY M).cls idx (mY Z) ∈ TT) (hf : frm M Z) (hc : mC Z = c9 ∧ mS Z = s9)
    (hk : c9 ≤ k ∧ s9 ≤ n) (hn : As.length = np) (hst : st = As.reverse ++ rest) (hrest : (rest.map fun v => v.category).sum ≤ 8)
    (hM : MtH G Z hh As C (fun v C' => Ex G M Q NX (k - c9) (n - s9) (pc + 3) ls (v.toList ++ rest) C')) : Ex G M Q NX k n pc ls st C := by
  obtain ⟨rfl, rfl⟩ := hc
  exact x_callSX hO d hm hv2 hl hf hk hn hst hrest hM
theorem x_cS {idx np c9 s9 : Nat} {Z : MI} {As rest : List Value} (hO : GO G) (d : decode (mB M) pc = .ok (.invokestatic idx, 3)) (hm : mOk Z np) (hv2 : Cond.static (mY Z) ∈ TT) (hl : Cond.methodLink (mY M).cls idx (mY Z) ∈ TT) (hf : frm M Z) (hc : mC Z = c9 ∧ mS Z = s9)
    (hk : c9 ≤ k ∧ s9 ≤ n) (hn : As.length = np) (hst : st = As.reverse ++ rest) (hrest : (rest.map fun v => v.category).sum ≤ 8)
    (hM : Mt G Z As C (fun v C' => Ex G M Q X (k - c9) (n - s9) (pc + 3) ls (v.toList ++ rest) C') X) : Ex G M Q X k n pc ls st C := by
  obtain ⟨rfl, rfl⟩ := hc
  exact x_callS hO d hm hv2 hl hf hk hn hst hrest hM
/-- two cases of what is known -/
theorem x_em (p : Prop) (h1 : p → Ex G M Q X k n pc ls st C) (h2 : ¬ p → Ex G M Q X k n pc ls st C) : Ex G M Q X k n pc ls st C := (Classical.em p).elim h1 h2
end XD

def vAb (ρ : Rw) (w : Int32) : Int64 := (if nI 0 ≤ w ∧ w ≤ nI 10 then (abV ρ w.toNatClampNeg).toInt64 else jA)
theorem vAb_is {n : Nat} {S : Nat → Nat} {ρ : Rw} {L : List Rw} {K : Nat → Option Rw} {w : Int32} : (aAbout (S, n, ρ, L, K) w).2.2 = (S, n, ρ, L, K) ∧ lw jA 0 0 (aAbout (S, n, ρ, L, K) w) = vAb ρ w := by
  unfold aAbout vAb
  constructor
  · repeat' split
    all_goals rfl
  · dsimp only
    repeat' split
    all_goals rfl
theorem q_about {G : GT} {C : AH} {Q : QT} {C0 : AH} {sa va : Nat → Nat} {x T n : Nat} {S : Nat → Nat} {ρ : Rw} {L : List Rw} {K : Nat → Option Rw} {w : Int32} (hN : GN G) (hO : GO G) (hX : GX G sa va) (hT : T ≤ 40000) (h : RF T C0 C x (S, n, ρ, L, K)) (hq : ∀ C' : AH, RF T C0 C' x (S, n, ρ, L, K) → Q (some (.long (vAb ρ w))) C') : MtH G M_L_about hh_about [.ref x, .int w] C Q := by
  refine l_about hN hO hX hT h (fun C' h' => ?_)
  rw [vAb_is.1] at h'
  exact q_eq vAb_is.2.symm (hq C' h')
def vSt (ρ : Rw) (w : Int32) : Int64 := (if nI 0 ≤ w ∧ w ≤ nI 5 then (nI (ρ (7 + w.toNatClampNeg))).toInt64 else jA)
theorem vSt_is {n : Nat} {S : Nat → Nat} {ρ : Rw} {L : List Rw} {K : Nat → Option Rw} {w : Int32} : (aSetting (S, n, ρ, L, K) w).2.2 = (S, n, ρ, L, K) ∧ lw jA 0 0 (aSetting (S, n, ρ, L, K) w) = vSt ρ w := by
  unfold aSetting vSt
  constructor
  · repeat' split
    all_goals rfl
  · dsimp only
    repeat' split
    all_goals rfl
theorem q_setting {G : GT} {C : AH} {Q : QT} {C0 : AH} {sa va : Nat → Nat} {x T n : Nat} {S : Nat → Nat} {ρ : Rw} {L : List Rw} {K : Nat → Option Rw} {w : Int32} (hN : GN G) (hO : GO G) (hX : GX G sa va) (hT : T ≤ 40000) (h : RF T C0 C x (S, n, ρ, L, K)) (hq : ∀ C' : AH, RF T C0 C' x (S, n, ρ, L, K) → Q (some (.long (vSt ρ w))) C') : MtH G M_L_setting hh_setting [.ref x, .int w] C Q := by
  refine l_setting hN hO hX hT h (fun C' h' => ?_)
  rw [vSt_is.1] at h'
  exact q_eq vSt_is.2.symm (hq C' h')
def vBu (ρ : Rw) (b w : Int32) : Int64 := (if isB ρ b then (if nI 0 ≤ w ∧ w ≤ nI 9 then (busV ρ b.toNatClampNeg w.toNatClampNeg).toInt64 else jA) else jI)
theorem vBu_is {n : Nat} {S : Nat → Nat} {ρ : Rw} {L : List Rw} {K : Nat → Option Rw} {b w : Int32} : (aBus (S, n, ρ, L, K) b w).2.2 = (S, n, ρ, L, K) ∧ lw jI jA 0 (aBus (S, n, ρ, L, K) b w) = vBu ρ b w := by
  unfold aBus vBu
  constructor
  · repeat' split
    all_goals rfl
  · dsimp only
    repeat' split
    all_goals rfl
theorem q_bus {G : GT} {C : AH} {Q : QT} {C0 : AH} {sa va : Nat → Nat} {x T n : Nat} {S : Nat → Nat} {ρ : Rw} {L : List Rw} {K : Nat → Option Rw} {b w : Int32} (hN : GN G) (hO : GO G) (hX : GX G sa va) (hT : T ≤ 40000) (h : RF T C0 C x (S, n, ρ, L, K)) (hq : ∀ C' : AH, RF T C0 C' x (S, n, ρ, L, K) → Q (some (.long (vBu ρ b w))) C') : MtH G M_L_bus hh_bus [.ref x, .int b, .int w] C Q := by
  refine l_bus hN hO hX hT h (fun C' h' => ?_)
  rw [vBu_is.1] at h'
  exact q_eq vBu_is.2.symm (hq C' h')
def vCh (ρ : Rw) (c w : Int32) : Int64 := (if isC ρ c then (if nI 0 ≤ w ∧ w ≤ nI 2 then (chV ρ c.toNatClampNeg w.toNatClampNeg).toInt64 else jA) else jI)
theorem vCh_is {n : Nat} {S : Nat → Nat} {ρ : Rw} {L : List Rw} {K : Nat → Option Rw} {c w : Int32} : (aCharger (S, n, ρ, L, K) c w).2.2 = (S, n, ρ, L, K) ∧ lw jI jA 0 (aCharger (S, n, ρ, L, K) c w) = vCh ρ c w := by
  unfold aCharger vCh
  constructor
  · repeat' split
    all_goals rfl
  · dsimp only
    repeat' split
    all_goals rfl
theorem q_charger {G : GT} {C : AH} {Q : QT} {C0 : AH} {sa va : Nat → Nat} {x T n : Nat} {S : Nat → Nat} {ρ : Rw} {L : List Rw} {K : Nat → Option Rw} {c w : Int32} (hN : GN G) (hO : GO G) (hX : GX G sa va) (hT : T ≤ 40000) (h : RF T C0 C x (S, n, ρ, L, K)) (hq : ∀ C' : AH, RF T C0 C' x (S, n, ρ, L, K) → Q (some (.long (vCh ρ c w))) C') : MtH G M_L_charger hh_charger [.ref x, .int c, .int w] C Q := by
  refine l_charger hN hO hX hT h (fun C' h' => ?_)
  rw [vCh_is.1] at h'
  exact q_eq vCh_is.2.symm (hq C' h')
def vSi (ρ : Rw) (b w : Int32) : Int64 := (if isB ρ b then (if nI 0 ≤ w then (sgV ρ b.toNatClampNeg w.toNatClampNeg).toInt64 else jA) else jI)
theorem vSi_is {n : Nat} {S : Nat → Nat} {ρ : Rw} {L : List Rw} {K : Nat → Option Rw} {b w : Int32} : (aSign (S, n, ρ, L, K) b w).2.2 = (S, n, ρ, L, K) ∧ lw jI jA 0 (aSign (S, n, ρ, L, K) b w) = vSi ρ b w := by
  unfold aSign vSi
  constructor
  · repeat' split
    all_goals rfl
  · dsimp only
    repeat' split
    all_goals rfl
theorem q_sign {G : GT} {C : AH} {Q : QT} {C0 : AH} {sa va : Nat → Nat} {x T n : Nat} {S : Nat → Nat} {ρ : Rw} {L : List Rw} {K : Nat → Option Rw} {b w : Int32} (hN : GN G) (hO : GO G) (hX : GX G sa va) (hT : T ≤ 40000) (h : RF T C0 C x (S, n, ρ, L, K)) (hq : ∀ C' : AH, RF T C0 C' x (S, n, ρ, L, K) → Q (some (.long (vSi ρ b w))) C') : MtH G M_L_sign hh_sign [.ref x, .int b, .int w] C Q := by
  refine l_sign hN hO hX hT h (fun C' h' => ?_)
  rw [vSi_is.1] at h'
  exact q_eq vSi_is.2.symm (hq C' h')
def vCo (ρ : Rw) (m w : Int32) : Int64 := (if nI 1 ≤ m ∧ m ≤ nI 72 then (if nI 0 ≤ w ∧ w ≤ nI 3 then (nI (runN m.toNatClampNeg ρ (3 + w.toNatClampNeg)) - nI (ρ (3 + w.toNatClampNeg))).toInt64 else jA) else jA)
theorem vCo_is {n : Nat} {S : Nat → Nat} {ρ : Rw} {L : List Rw} {K : Nat → Option Rw} {m w : Int32} : (aComing (S, n, ρ, L, K) m w).2.2 = (S, n, ρ, L, K) ∧ lw jA 0 0 (aComing (S, n, ρ, L, K) m w) = vCo ρ m w := by
  unfold aComing vCo
  constructor
  · repeat' split
    all_goals rfl
  · dsimp only
    repeat' split
    all_goals rfl
theorem q_coming {G : GT} {C : AH} {Q : QT} {C0 : AH} {sa va : Nat → Nat} {x T n : Nat} {S : Nat → Nat} {ρ : Rw} {L : List Rw} {K : Nat → Option Rw} {m w : Int32} (hN : GN G) (hO : GO G) (hX : GX G sa va) (hT : T ≤ 40000) (h : RF T C0 C x (S, n, ρ, L, K)) (hq : ∀ C' : AH, RF T C0 C' x (S, n, ρ, L, K) → Q (some (.long (vCo ρ m w))) C') : MtH G M_L_coming hh_coming [.ref x, .int m, .int w] C Q := by
  refine l_coming hN hO hX hT h (fun C' h' => ?_)
  rw [vCo_is.1] at h'
  exact q_eq vCo_is.2.symm (hq C' h')
def vFi (ρ : Rw) (b : Int32) : Int64 := (if isB ρ b then (fmS b.toNatClampNeg 72 ρ).toInt64 else jI)
theorem vFi_is {n : Nat} {S : Nat → Nat} {ρ : Rw} {L : List Rw} {K : Nat → Option Rw} {b : Int32} : (aFirst (S, n, ρ, L, K) b).2.2 = (S, n, ρ, L, K) ∧ lw jI 0 0 (aFirst (S, n, ρ, L, K) b) = vFi ρ b := by
  unfold aFirst vFi
  constructor
  · repeat' split
    all_goals rfl
  · dsimp only
    repeat' split
    all_goals rfl
theorem q_firstMissed {G : GT} {C : AH} {Q : QT} {C0 : AH} {sa va : Nat → Nat} {x T n : Nat} {S : Nat → Nat} {ρ : Rw} {L : List Rw} {K : Nat → Option Rw} {b : Int32} (hN : GN G) (hO : GO G) (hX : GX G sa va) (hT : T ≤ 40000) (h : RF T C0 C x (S, n, ρ, L, K)) (hq : ∀ C' : AH, RF T C0 C' x (S, n, ρ, L, K) → Q (some (.long (vFi ρ b))) C') : MtH G M_L_firstMissed hh_firstMissed [.ref x, .int b] C Q := by
  refine l_firstMissed hN hO hX hT h (fun C' h' => ?_)
  rw [vFi_is.1] at h'
  exact q_eq vFi_is.2.symm (hq C' h')
def vLe (ρ : Rw) (m : Int32) : Int64 := (if nI 1 ≤ m ∧ m ≤ nI 72 then (llS ρ m.toNatClampNeg 26 0).toInt64 else jA)
theorem vLe_is {n : Nat} {S : Nat → Nat} {ρ : Rw} {L : List Rw} {K : Nat → Option Rw} {m : Int32} : (aLeast (S, n, ρ, L, K) m).2.2 = (S, n, ρ, L, K) ∧ lw jA 0 0 (aLeast (S, n, ρ, L, K) m) = vLe ρ m := by
  unfold aLeast vLe
  constructor
  · repeat' split
    all_goals rfl
  · dsimp only
    repeat' split
    all_goals rfl
theorem q_leastLimit {G : GT} {C : AH} {Q : QT} {C0 : AH} {sa va : Nat → Nat} {x T n : Nat} {S : Nat → Nat} {ρ : Rw} {L : List Rw} {K : Nat → Option Rw} {m : Int32} (hN : GN G) (hO : GO G) (hX : GX G sa va) (hT : T ≤ 40000) (h : RF T C0 C x (S, n, ρ, L, K)) (hq : ∀ C' : AH, RF T C0 C' x (S, n, ρ, L, K) → Q (some (.long (vLe ρ m))) C') : MtH G M_L_leastLimit hh_leastLimit [.ref x, .int m] C Q := by
  refine l_leastLimit hN hO hX hT h (fun C' h' => ?_)
  rw [vLe_is.1] at h'
  exact q_eq vLe_is.2.symm (hq C' h')
def vBe (ρ : Rw) (m : Int32) : Int64 := (if nI 1 ≤ m ∧ m ≤ nI 72 then (nI (bsS (cst ρ m.toNatClampNeg) 23).1).toInt64 else jA)
theorem vBe_is {n : Nat} {S : Nat → Nat} {ρ : Rw} {L : List Rw} {K : Nat → Option Rw} {m : Int32} : (aBest (S, n, ρ, L, K) m).2.2 = (S, n, ρ, L, K) ∧ lw jA 0 0 (aBest (S, n, ρ, L, K) m) = vBe ρ m := by
  unfold aBest vBe
  constructor
  · repeat' split
    all_goals rfl
  · dsimp only
    repeat' split
    all_goals rfl
theorem q_bestNight {G : GT} {C : AH} {Q : QT} {C0 : AH} {sa va : Nat → Nat} {x T n : Nat} {S : Nat → Nat} {ρ : Rw} {L : List Rw} {K : Nat → Option Rw} {m : Int32} (hN : GN G) (hO : GO G) (hX : GX G sa va) (hT : T ≤ 40000) (h : RF T C0 C x (S, n, ρ, L, K)) (hq : ∀ C' : AH, RF T C0 C' x (S, n, ρ, L, K) → Q (some (.long (vBe ρ m))) C') : MtH G M_L_bestNight hh_bestNight [.ref x, .int m] C Q := by
  refine l_bestNight hN hO hX hT h (fun C' h' => ?_)
  rw [vBe_is.1] at h'
  exact q_eq vBe_is.2.symm (hq C' h')
def vIf (ρ : Rw) (p m : Int32) : Int64 := (if nI 1 ≤ p ∧ p ≤ nI 50 then (if nI 1 ≤ m ∧ m ≤ nI 72 then (if ρ 2 = 5 then jS else (nI (runN m.toNatClampNeg (addC ρ p.toNatClampNeg) 5) - nI (ρ 5)).toInt64) else jA) else jA)
theorem vIf_is {n : Nat} {S : Nat → Nat} {ρ : Rw} {L : List Rw} {K : Nat → Option Rw} {p m : Int32} : (aIfP (S, n, ρ, L, K) p m).2.2 = (S, n, ρ, L, K) ∧ lw jA jS 0 (aIfP (S, n, ρ, L, K) p m) = vIf ρ p m := by
  unfold aIfP vIf
  constructor
  · repeat' split
    all_goals rfl
  · dsimp only
    repeat' split
    all_goals rfl
theorem q_ifPlugged {G : GT} {C : AH} {Q : QT} {C0 : AH} {sa va : Nat → Nat} {x T n : Nat} {S : Nat → Nat} {ρ : Rw} {L : List Rw} {K : Nat → Option Rw} {p m : Int32} (hN : GN G) (hO : GO G) (hX : GX G sa va) (hT : T ≤ 40000) (h : RF T C0 C x (S, n, ρ, L, K)) (hq : ∀ C' : AH, RF T C0 C' x (S, n, ρ, L, K) → Q (some (.long (vIf ρ p m))) C') : MtH G M_L_ifPlugged hh_ifPlugged [.ref x, .int p, .int m] C Q := by
  refine l_ifPlugged hN hO hX hT h (fun C' h' => ?_)
  rw [vIf_is.1] at h'
  exact q_eq vIf_is.2.symm (hq C' h')
def vSc (ρ : Rw) (w : Int32) (v : Int64) : Int64 := (if nI 1 ≤ w ∧ w ≤ nI 3 then (if ¬ v < 0 ∧ v.toNatClampNeg / 100000 ^ w.toNatClampNeg = 0 then (scS v.toNatClampNeg w.toNatClampNeg w.toNatClampNeg 0 ρ).toInt64 else jA) else jA)
theorem vSc_is {n : Nat} {S : Nat → Nat} {ρ : Rw} {L : List Rw} {K : Nat → Option Rw} {w : Int32} {v : Int64} : (aScript (S, n, ρ, L, K) w v).2.2 = (S, n, ρ, L, K) ∧ lw jA 0 0 (aScript (S, n, ρ, L, K) w v) = vSc ρ w v := by
  unfold aScript vSc
  constructor
  · repeat' split
    all_goals rfl
  · dsimp only
    repeat' split
    all_goals rfl
theorem q_script {G : GT} {C : AH} {Q : QT} {C0 : AH} {sa va : Nat → Nat} {x T n : Nat} {S : Nat → Nat} {ρ : Rw} {L : List Rw} {K : Nat → Option Rw} {w : Int32} {v : Int64} (hN : GN G) (hO : GO G) (hX : GX G sa va) (hT : T ≤ 40000) (h : RF T C0 C x (S, n, ρ, L, K)) (hq : ∀ C' : AH, RF T C0 C' x (S, n, ρ, L, K) → Q (some (.long (vSc ρ w v))) C') : MtH G M_L_script hh_script [.ref x, .int w, .long v] C Q := by
  refine l_script hN hO hX hT h (fun C' h' => ?_)
  rw [vSc_is.1] at h'
  exact q_eq vSc_is.2.symm (hq C' h')
def vSm (ρ : Rw) (v : Int64) (w : Int32) : Int64 := (if nI 1 ≤ w ∧ w ≤ nI 30 then (simV ρ (xI v ρ w.toNatClampNeg).2).toInt64 else jA)
theorem vSm_is {n : Nat} {S : Nat → Nat} {ρ : Rw} {L : List Rw} {K : Nat → Option Rw} {v : Int64} {w : Int32} : (aSim (S, n, ρ, L, K) v w).2.2 = (S, n, ρ, L, K) ∧ lw jA 0 0 (aSim (S, n, ρ, L, K) v w) = vSm ρ v w := by
  unfold aSim vSm
  constructor
  · repeat' split
    all_goals rfl
  · dsimp only
    repeat' split
    all_goals rfl
theorem q_simulate {G : GT} {C : AH} {Q : QT} {C0 : AH} {sa va : Nat → Nat} {x T n : Nat} {S : Nat → Nat} {ρ : Rw} {L : List Rw} {K : Nat → Option Rw} {v : Int64} {w : Int32} (hN : GN G) (hO : GO G) (hX : GX G sa va) (hT : T ≤ 40000) (h : RF T C0 C x (S, n, ρ, L, K)) (hq : ∀ C' : AH, RF T C0 C' x (S, n, ρ, L, K) → Q (some (.long (vSm ρ v w))) C') : MtH G M_L_simulate hh_simulate [.ref x, .long v, .int w] C Q := by
  refine l_simulate hN hO hX hT h (fun C' h' => ?_)
  rw [vSm_is.1] at h'
  exact q_eq vSm_is.2.symm (hq C' h')
theorem z_append {G : GT} {C : AH} {Q : QT} {C0 : AH} {sa va : Nat → Nat} {x T n : Nat} {S : Nat → Nat} {ρ : Rw} {L : List Rw} {K : Nat → Option Rw} {c : Int32} {k9 : Nat} {v9 : Int64} (hN : GN G) (hO : GO G) (hX : GX G sa va) (hT : T ≤ 40000) (h : RF T C0 C x (S, n, ρ, L, K)) (e9 : aAppend (S, n, ρ, L, K) c = (k9, 0, (S, n, ρ, L, K))) (ev : lw jA jS 0 (k9, 0, (S, n, ρ, L, K)) = v9) (hq : ∀ C' : AH, RF T C0 C' x (S, n, ρ, L, K) → Q (some (.long v9)) C') : MtH G M_L_append hh_append [.ref x, .int c] C Q := by
  refine l_append hN hO hX h (fun C' h' => ?_)
  rw [e9] at h'
  exact q_eq (by rw [e9]; exact ev.symm) (hq C' ⟨⟨h.1.1, h'.1.2⟩, h'.2⟩)
theorem z_addBus {G : GT} {C : AH} {Q : QT} {C0 : AH} {sa va : Nat → Nat} {x T n : Nat} {S : Nat → Nat} {ρ : Rw} {L : List Rw} {K : Nat → Option Rw} {a b c d e : Int32} {k9 : Nat} {v9 : Int64} (hN : GN G) (hO : GO G) (hX : GX G sa va) (hT : T ≤ 40000) (h : RF T C0 C x (S, n, ρ, L, K)) (e9 : aAddBus (S, n, ρ, L, K) a b c d e = (k9, 0, (S, n, ρ, L, K))) (ev : lw jA jS 0 (k9, 0, (S, n, ρ, L, K)) = v9) (hq : ∀ C' : AH, RF T C0 C' x (S, n, ρ, L, K) → Q (some (.long v9)) C') : MtH G M_L_addBus hh_addBus [.ref x, .int a, .int b, .int c, .int d, .int e] C Q := by
  refine l_addBus hN hO hX hT h (fun C' h' => ?_)
  rw [e9] at h'
  exact q_eq (by rw [e9]; exact ev.symm) (hq C' ⟨⟨h.1.1, h'.1.2⟩, h'.2⟩)
theorem z_addCharger {G : GT} {C : AH} {Q : QT} {C0 : AH} {sa va : Nat → Nat} {x T n : Nat} {S : Nat → Nat} {ρ : Rw} {L : List Rw} {K : Nat → Option Rw} {w : Int32} {k9 : Nat} {v9 : Int64} (hN : GN G) (hO : GO G) (hX : GX G sa va) (hT : T ≤ 40000) (h : RF T C0 C x (S, n, ρ, L, K)) (e9 : aAddC (S, n, ρ, L, K) w = (k9, 0, (S, n, ρ, L, K))) (ev : lw jA jS 0 (k9, 0, (S, n, ρ, L, K)) = v9) (hq : ∀ C' : AH, RF T C0 C' x (S, n, ρ, L, K) → Q (some (.long v9)) C') : MtH G M_L_addCharger hh_addCharger [.ref x, .int w] C Q := by
  refine l_addCharger hN hO hX hT h (fun C' h' => ?_)
  rw [e9] at h'
  exact q_eq (by rw [e9]; exact ev.symm) (hq C' ⟨⟨h.1.1, h'.1.2⟩, h'.2⟩)
theorem z_route {G : GT} {C : AH} {Q : QT} {C0 : AH} {sa va : Nat → Nat} {x T n : Nat} {S : Nat → Nat} {ρ : Rw} {L : List Rw} {K : Nat → Option Rw} {b a l k : Int32} {k9 : Nat} {v9 : Int64} (hN : GN G) (hO : GO G) (hX : GX G sa va) (hT : T ≤ 40000) (h : RF T C0 C x (S, n, ρ, L, K)) (e9 : aRoute (S, n, ρ, L, K) b a l k = (k9, 0, (S, n, ρ, L, K))) (ev : lw jI jA jS (k9, 0, (S, n, ρ, L, K)) = v9) (hq : ∀ C' : AH, RF T C0 C' x (S, n, ρ, L, K) → Q (some (.long v9)) C') : MtH G M_L_route hh_route [.ref x, .int b, .int a, .int l, .int k] C Q := by
  refine l_route hN hO hX hT h (fun C' h' => ?_)
  rw [e9] at h'
  exact q_eq (by rw [e9]; exact ev.symm) (hq C' ⟨⟨h.1.1, h'.1.2⟩, h'.2⟩)
theorem z_battery {G : GT} {C : AH} {Q : QT} {C0 : AH} {sa va : Nat → Nat} {x T n : Nat} {S : Nat → Nat} {ρ : Rw} {L : List Rw} {K : Nat → Option Rw} {b a : Int32} {k9 : Nat} {v9 : Int64} (hN : GN G) (hO : GO G) (hX : GX G sa va) (hT : T ≤ 40000) (h : RF T C0 C x (S, n, ρ, L, K)) (e9 : aBattery (S, n, ρ, L, K) b a = (k9, 0, (S, n, ρ, L, K))) (ev : lw jI jA jS (k9, 0, (S, n, ρ, L, K)) = v9) (hq : ∀ C' : AH, RF T C0 C' x (S, n, ρ, L, K) → Q (some (.long v9)) C') : MtH G M_L_battery hh_battery [.ref x, .int b, .int a] C Q := by
  refine l_battery hN hO hX hT h (fun C' h' => ?_)
  rw [e9] at h'
  exact q_eq (by rw [e9]; exact ev.symm) (hq C' ⟨⟨h.1.1, h'.1.2⟩, h'.2⟩)
theorem z_run {G : GT} {C : AH} {Q : QT} {C0 : AH} {sa va : Nat → Nat} {x T n : Nat} {S : Nat → Nat} {ρ : Rw} {L : List Rw} {K : Nat → Option Rw} {w : Int32} {k9 : Nat} {v9 : Int64} (hN : GN G) (hO : GO G) (hX : GX G sa va) (hT : T ≤ 40000) (h : RF T C0 C x (S, n, ρ, L, K)) (e9 : aRun (S, n, ρ, L, K) w = (k9, 0, (S, n, ρ, L, K))) (ev : lw jA 0 0 (k9, 0, (S, n, ρ, L, K)) = v9) (hq : ∀ C' : AH, RF T C0 C' x (S, n, ρ, L, K) → Q (some (.long v9)) C') : MtH G M_L_run hh_run [.ref x, .int w] C Q := by
  refine l_run hN hO hX hT h (fun C' h' => ?_)
  rw [e9] at h'
  exact q_eq (by rw [e9]; exact ev.symm) (hq C' ⟨⟨h.1.1, h'.1.2⟩, h'.2⟩)
theorem z_set {G : GT} {C : AH} {Q : QT} {C0 : AH} {sa va : Nat → Nat} {x T n : Nat} {S : Nat → Nat} {ρ : Rw} {L : List Rw} {K : Nat → Option Rw} {w v : Int32} {k9 : Nat} {v9 : Int64} (hN : GN G) (hO : GO G) (hX : GX G sa va) (hT : T ≤ 40000) (h : RF T C0 C x (S, n, ρ, L, K)) (e9 : aSet (S, n, ρ, L, K) w v = (k9, 0, (S, n, ρ, L, K))) (ev : lw jA 0 0 (k9, 0, (S, n, ρ, L, K)) = v9) (hq : ∀ C' : AH, RF T C0 C' x (S, n, ρ, L, K) → Q (some (.long v9)) C') : MtH G M_L_set hh_set [.ref x, .int w, .int v] C Q := by
  refine l_set hN hO hX hT h (fun C' h' => ?_)
  rw [e9] at h'
  exact q_eq (by rw [e9]; exact ev.symm) (hq C' ⟨⟨h.1.1, h'.1.2⟩, h'.2⟩)
theorem z_undo {G : GT} {C : AH} {Q : QT} {C0 : AH} {sa va : Nat → Nat} {x T n : Nat} {S : Nat → Nat} {ρ : Rw} {L : List Rw} {K : Nat → Option Rw}  {k9 : Nat} {v9 : Int64} (hN : GN G) (hO : GO G) (hX : GX G sa va) (hT : T ≤ 40000) (h : RF T C0 C x (S, n, ρ, L, K)) (e9 : aUndo (S, n, ρ, L, K) = (k9, 0, (S, n, ρ, L, K))) (ev : lw jS 0 0 (k9, 0, (S, n, ρ, L, K)) = v9) (hq : ∀ C' : AH, RF T C0 C' x (S, n, ρ, L, K) → Q (some (.long v9)) C') : MtH G M_L_undo hh_undo [.ref x] C Q := by
  refine l_undo hN hO hX hT h (fun C' h' => ?_)
  rw [e9] at h'
  exact q_eq (by rw [e9]; exact ev.symm) (hq C' ⟨⟨h.1.1, h'.1.2⟩, h'.2⟩)
theorem z_save {G : GT} {C : AH} {Q : QT} {C0 : AH} {sa va : Nat → Nat} {x T n : Nat} {S : Nat → Nat} {ρ : Rw} {L : List Rw} {K : Nat → Option Rw} {v : Int32} {k9 : Nat} {v9 : Int64} (hN : GN G) (hO : GO G) (hX : GX G sa va) (hT : T ≤ 40000) (h : RF T C0 C x (S, n, ρ, L, K)) (e9 : aSave (S, n, ρ, L, K) v = (k9, 0, (S, n, ρ, L, K))) (ev : lw jI 0 0 (k9, 0, (S, n, ρ, L, K)) = v9) (hq : ∀ C' : AH, RF T C0 C' x (S, n, ρ, L, K) → Q (some (.long v9)) C') : MtH G M_L_save hh_save [.ref x, .int v] C Q := by
  refine l_save hN hO hX hT h (fun C' h' => ?_)
  rw [e9] at h'
  exact q_eq (by rw [e9]; exact ev.symm) (hq C' ⟨⟨h.1.1, h'.1.2⟩, h'.2⟩)
theorem z_restore {G : GT} {C : AH} {Q : QT} {C0 : AH} {sa va : Nat → Nat} {x T n : Nat} {S : Nat → Nat} {ρ : Rw} {L : List Rw} {K : Nat → Option Rw} {v : Int32} {k9 : Nat} {v9 : Int64} (hN : GN G) (hO : GO G) (hX : GX G sa va) (hT : T ≤ 40000) (h : RF T C0 C x (S, n, ρ, L, K)) (e9 : aRestore (S, n, ρ, L, K) v = (k9, 0, (S, n, ρ, L, K))) (ev : lw jI jS 0 (k9, 0, (S, n, ρ, L, K)) = v9) (hq : ∀ C' : AH, RF T C0 C' x (S, n, ρ, L, K) → Q (some (.long v9)) C') : MtH G M_L_restore hh_restore [.ref x, .int v] C Q := by
  refine l_restore hN hO hX hT h (fun C' h' => ?_)
  rw [e9] at h'
  exact q_eq (by rw [e9]; exact ev.symm) (hq C' ⟨⟨h.1.1, h'.1.2⟩, h'.2⟩)
